section
-- ===== PART A: goes FIRST, ahead of the names: the tables' words, and 'selects' of the private methods out of them =====
/-- a private method of a class that the tables say can be made, by its rows of tables_1 -/
def lw_okq (q : MethodName × Nat) : Prop := (q.1.cls ≠ "java/lang/invoke/MethodHandle" ∧ q.1.cls ≠ "java/lang/invoke/VarHandle") ∧ Cond.instantiable q.1.cls q.2 ∈ tables_1 ∧ Cond.privateMethod q.1 ∈ tables_1 ∧ Cond.instanceMethod q.1 ∈ tables_1
theorem lw_p0 : lw_okq (⟨"NestedClips$Layout", "layOneBehindTheOther", "(LNestedClips$Show;I)I"⟩, 6) := ⟨⟨by decide +kernel, by decide +kernel⟩, List.mem_of_getElem? (i := 96) (by decide +kernel), List.mem_of_getElem? (i := 384) (by decide +kernel), List.mem_of_getElem? (i := 385) (by decide +kernel)⟩
theorem lw_p1 : lw_okq (⟨"NestedClips$Layout", "layAtOnce", "(LNestedClips$Show;I)I"⟩, 6) := ⟨⟨by decide +kernel, by decide +kernel⟩, List.mem_of_getElem? (i := 96) (by decide +kernel), List.mem_of_getElem? (i := 392) (by decide +kernel), List.mem_of_getElem? (i := 393) (by decide +kernel)⟩
theorem lw_p2 : lw_okq (⟨"NestedClips$Layout", "layInPar", "(LNestedClips$Show;I)V"⟩, 6) := ⟨⟨by decide +kernel, by decide +kernel⟩, List.mem_of_getElem? (i := 96) (by decide +kernel), List.mem_of_getElem? (i := 396) (by decide +kernel), List.mem_of_getElem? (i := 397) (by decide +kernel)⟩
theorem lw_p3 : lw_okq (⟨"NestedClips$Layout", "activeOf", "(LNestedClips$Show;I)I"⟩, 6) := ⟨⟨by decide +kernel, by decide +kernel⟩, List.mem_of_getElem? (i := 96) (by decide +kernel), List.mem_of_getElem? (i := 411) (by decide +kernel), List.mem_of_getElem? (i := 412) (by decide +kernel)⟩
theorem lw_p4 : lw_okq (⟨"NestedClips$Stage", "standLeaves", "()V"⟩, 8) := ⟨⟨by decide +kernel, by decide +kernel⟩, List.mem_of_getElem? (i := 134) (by decide +kernel), List.mem_of_getElem? (i := 415) (by decide +kernel), List.mem_of_getElem? (i := 416) (by decide +kernel)⟩
theorem lw_p5 : lw_okq (⟨"NestedClips$Stage", "sortPresses", "()V"⟩, 8) := ⟨⟨by decide +kernel, by decide +kernel⟩, List.mem_of_getElem? (i := 134) (by decide +kernel), List.mem_of_getElem? (i := 422) (by decide +kernel), List.mem_of_getElem? (i := 423) (by decide +kernel)⟩
theorem lw_p6 : lw_okq (⟨"NestedClips$Stage", "fill", "(LNestedClips$Moment;I)V"⟩, 8) := ⟨⟨by decide +kernel, by decide +kernel⟩, List.mem_of_getElem? (i := 134) (by decide +kernel), List.mem_of_getElem? (i := 426) (by decide +kernel), List.mem_of_getElem? (i := 427) (by decide +kernel)⟩
theorem lw_p7 : lw_okq (⟨"NestedClips$Stage", "fillClip", "(LNestedClips$Moment;I)V"⟩, 8) := ⟨⟨by decide +kernel, by decide +kernel⟩, List.mem_of_getElem? (i := 134) (by decide +kernel), List.mem_of_getElem? (i := 434) (by decide +kernel), List.mem_of_getElem? (i := 435) (by decide +kernel)⟩
theorem lw_p8 : lw_okq (⟨"NestedClips$Stage", "begunByPress", "(LNestedClips$Moment;I)I"⟩, 8) := ⟨⟨by decide +kernel, by decide +kernel⟩, List.mem_of_getElem? (i := 134) (by decide +kernel), List.mem_of_getElem? (i := 442) (by decide +kernel), List.mem_of_getElem? (i := 443) (by decide +kernel)⟩
theorem lw_p9 : lw_okq (⟨"NestedClips$Stage", "samePasses", "(LNestedClips$Moment;LNestedClips$Moment;I)Z"⟩, 8) := ⟨⟨by decide +kernel, by decide +kernel⟩, List.mem_of_getElem? (i := 134) (by decide +kernel), List.mem_of_getElem? (i := 446) (by decide +kernel), List.mem_of_getElem? (i := 447) (by decide +kernel)⟩
theorem lw_p10 : lw_okq (⟨"NestedClips$Stage", "fillRunning", "(LNestedClips$Moment;II)V"⟩, 8) := ⟨⟨by decide +kernel, by decide +kernel⟩, List.mem_of_getElem? (i := 134) (by decide +kernel), List.mem_of_getElem? (i := 450) (by decide +kernel), List.mem_of_getElem? (i := 451) (by decide +kernel)⟩
theorem lw_p11 : lw_okq (⟨"NestedClips$Stage", "strengthOf", "(LNestedClips$Moment;I)I"⟩, 8) := ⟨⟨by decide +kernel, by decide +kernel⟩, List.mem_of_getElem? (i := 134) (by decide +kernel), List.mem_of_getElem? (i := 454) (by decide +kernel), List.mem_of_getElem? (i := 455) (by decide +kernel)⟩
theorem lw_p12 : lw_okq (⟨"NestedClips$Stage", "shareLight", "(LNestedClips$Moment;)V"⟩, 8) := ⟨⟨by decide +kernel, by decide +kernel⟩, List.mem_of_getElem? (i := 134) (by decide +kernel), List.mem_of_getElem? (i := 462) (by decide +kernel), List.mem_of_getElem? (i := 463) (by decide +kernel)⟩
theorem lw_p13 : lw_okq (⟨"NestedClips", "refuse", "(I)I"⟩, 13) := ⟨⟨by decide +kernel, by decide +kernel⟩, List.mem_of_getElem? (i := 20) (by decide +kernel), List.mem_of_getElem? (i := 523) (by decide +kernel), List.mem_of_getElem? (i := 524) (by decide +kernel)⟩
theorem lw_p14 : lw_okq (⟨"NestedClips$Reader", "takeToken", "()V"⟩, 15) := ⟨⟨by decide +kernel, by decide +kernel⟩, List.mem_of_getElem? (i := 284) (by decide +kernel), List.mem_of_getElem? (i := 535) (by decide +kernel), List.mem_of_getElem? (i := 536) (by decide +kernel)⟩
theorem lw_p15 : lw_okq (⟨"NestedClips$Reader", "isLetter", "(I)Z"⟩, 15) := ⟨⟨by decide +kernel, by decide +kernel⟩, List.mem_of_getElem? (i := 284) (by decide +kernel), List.mem_of_getElem? (i := 539) (by decide +kernel), List.mem_of_getElem? (i := 540) (by decide +kernel)⟩
def lw_privs_1 : List (MethodName × Nat) := [(⟨"NestedClips$Layout", "layOneBehindTheOther", "(LNestedClips$Show;I)I"⟩, 6), (⟨"NestedClips$Layout", "layAtOnce", "(LNestedClips$Show;I)I"⟩, 6), (⟨"NestedClips$Layout", "layInPar", "(LNestedClips$Show;I)V"⟩, 6), (⟨"NestedClips$Layout", "activeOf", "(LNestedClips$Show;I)I"⟩, 6), (⟨"NestedClips$Stage", "standLeaves", "()V"⟩, 8), (⟨"NestedClips$Stage", "sortPresses", "()V"⟩, 8), (⟨"NestedClips$Stage", "fill", "(LNestedClips$Moment;I)V"⟩, 8), (⟨"NestedClips$Stage", "fillClip", "(LNestedClips$Moment;I)V"⟩, 8), (⟨"NestedClips$Stage", "begunByPress", "(LNestedClips$Moment;I)I"⟩, 8), (⟨"NestedClips$Stage", "samePasses", "(LNestedClips$Moment;LNestedClips$Moment;I)Z"⟩, 8), (⟨"NestedClips$Stage", "fillRunning", "(LNestedClips$Moment;II)V"⟩, 8), (⟨"NestedClips$Stage", "strengthOf", "(LNestedClips$Moment;I)I"⟩, 8), (⟨"NestedClips$Stage", "shareLight", "(LNestedClips$Moment;)V"⟩, 8), (⟨"NestedClips", "refuse", "(I)I"⟩, 13), (⟨"NestedClips$Reader", "takeToken", "()V"⟩, 15), (⟨"NestedClips$Reader", "isLetter", "(I)Z"⟩, 15)]
theorem lw_r1 : ∀ q ∈ lw_privs_1, lw_okq q := List.forall_mem_cons.mpr ⟨lw_p0, List.forall_mem_cons.mpr ⟨lw_p1, List.forall_mem_cons.mpr ⟨lw_p2, List.forall_mem_cons.mpr ⟨lw_p3, List.forall_mem_cons.mpr ⟨lw_p4, List.forall_mem_cons.mpr ⟨lw_p5, List.forall_mem_cons.mpr ⟨lw_p6, List.forall_mem_cons.mpr ⟨lw_p7, List.forall_mem_cons.mpr ⟨lw_p8, List.forall_mem_cons.mpr ⟨lw_p9, List.forall_mem_cons.mpr ⟨lw_p10, List.forall_mem_cons.mpr ⟨lw_p11, List.forall_mem_cons.mpr ⟨lw_p12, List.forall_mem_cons.mpr ⟨lw_p13, List.forall_mem_cons.mpr ⟨lw_p14, List.forall_mem_cons.mpr ⟨lw_p15, fun _ h => absurd h List.not_mem_nil⟩⟩⟩⟩⟩⟩⟩⟩⟩⟩⟩⟩⟩⟩⟩⟩
theorem lw_p16 : lw_okq (⟨"NestedClips$Reader", "takeWord", "()V"⟩, 15) := ⟨⟨by decide +kernel, by decide +kernel⟩, List.mem_of_getElem? (i := 284) (by decide +kernel), List.mem_of_getElem? (i := 543) (by decide +kernel), List.mem_of_getElem? (i := 544) (by decide +kernel)⟩
theorem lw_p17 : lw_okq (⟨"NestedClips$Reader", "isDigit", "(I)Z"⟩, 15) := ⟨⟨by decide +kernel, by decide +kernel⟩, List.mem_of_getElem? (i := 284) (by decide +kernel), List.mem_of_getElem? (i := 551) (by decide +kernel), List.mem_of_getElem? (i := 552) (by decide +kernel)⟩
theorem lw_p18 : lw_okq (⟨"NestedClips$Reader", "takeNumber", "()V"⟩, 15) := ⟨⟨by decide +kernel, by decide +kernel⟩, List.mem_of_getElem? (i := 284) (by decide +kernel), List.mem_of_getElem? (i := 555) (by decide +kernel), List.mem_of_getElem? (i := 556) (by decide +kernel)⟩
theorem lw_p19 : lw_okq (⟨"NestedClips$Reader", "takeSign", "()V"⟩, 15) := ⟨⟨by decide +kernel, by decide +kernel⟩, List.mem_of_getElem? (i := 284) (by decide +kernel), List.mem_of_getElem? (i := 561) (by decide +kernel), List.mem_of_getElem? (i := 562) (by decide +kernel)⟩
theorem lw_p20 : lw_okq (⟨"NestedClips$Reader", "readClip", "()Z"⟩, 15) := ⟨⟨by decide +kernel, by decide +kernel⟩, List.mem_of_getElem? (i := 284) (by decide +kernel), List.mem_of_getElem? (i := 565) (by decide +kernel), List.mem_of_getElem? (i := 566) (by decide +kernel)⟩
theorem lw_p21 : lw_okq (⟨"NestedClips$Reader", "wordNumber", "()I"⟩, 15) := ⟨⟨by decide +kernel, by decide +kernel⟩, List.mem_of_getElem? (i := 284) (by decide +kernel), List.mem_of_getElem? (i := 569) (by decide +kernel), List.mem_of_getElem? (i := 570) (by decide +kernel)⟩
theorem lw_p22 : lw_okq (⟨"NestedClips$Reader", "cannotStand", "()Z"⟩, 15) := ⟨⟨by decide +kernel, by decide +kernel⟩, List.mem_of_getElem? (i := 284) (by decide +kernel), List.mem_of_getElem? (i := 622) (by decide +kernel), List.mem_of_getElem? (i := 623) (by decide +kernel)⟩
theorem lw_p23 : lw_okq (⟨"NestedClips$Reader", "failWith", "(I)Z"⟩, 15) := ⟨⟨by decide +kernel, by decide +kernel⟩, List.mem_of_getElem? (i := 284) (by decide +kernel), List.mem_of_getElem? (i := 626) (by decide +kernel), List.mem_of_getElem? (i := 627) (by decide +kernel)⟩
theorem lw_p24 : lw_okq (⟨"NestedClips$Reader", "readName", "(I)Z"⟩, 15) := ⟨⟨by decide +kernel, by decide +kernel⟩, List.mem_of_getElem? (i := 284) (by decide +kernel), List.mem_of_getElem? (i := 652) (by decide +kernel), List.mem_of_getElem? (i := 653) (by decide +kernel)⟩
theorem lw_p25 : lw_okq (⟨"NestedClips$Reader", "isName", "()Z"⟩, 15) := ⟨⟨by decide +kernel, by decide +kernel⟩, List.mem_of_getElem? (i := 284) (by decide +kernel), List.mem_of_getElem? (i := 656) (by decide +kernel), List.mem_of_getElem? (i := 657) (by decide +kernel)⟩
theorem lw_p26 : lw_okq (⟨"NestedClips$Reader", "readMark", "(I)Z"⟩, 15) := ⟨⟨by decide +kernel, by decide +kernel⟩, List.mem_of_getElem? (i := 284) (by decide +kernel), List.mem_of_getElem? (i := 660) (by decide +kernel), List.mem_of_getElem? (i := 661) (by decide +kernel)⟩
theorem lw_p27 : lw_okq (⟨"NestedClips$Reader", "readMarkNumber", "(II)Z"⟩, 15) := ⟨⟨by decide +kernel, by decide +kernel⟩, List.mem_of_getElem? (i := 284) (by decide +kernel), List.mem_of_getElem? (i := 667) (by decide +kernel), List.mem_of_getElem? (i := 668) (by decide +kernel)⟩
theorem lw_p28 : lw_okq (⟨"NestedClips$Reader", "mayBeNumber", "(II)Z"⟩, 15) := ⟨⟨by decide +kernel, by decide +kernel⟩, List.mem_of_getElem? (i := 284) (by decide +kernel), List.mem_of_getElem? (i := 675) (by decide +kernel), List.mem_of_getElem? (i := 676) (by decide +kernel)⟩
theorem lw_p29 : lw_okq (⟨"NestedClips$Reader", "readStart", "(II)Z"⟩, 15) := ⟨⟨by decide +kernel, by decide +kernel⟩, List.mem_of_getElem? (i := 284) (by decide +kernel), List.mem_of_getElem? (i := 679) (by decide +kernel), List.mem_of_getElem? (i := 680) (by decide +kernel)⟩
theorem lw_p30 : lw_okq (⟨"NestedClips$Reader", "readSign", "(I)Z"⟩, 15) := ⟨⟨by decide +kernel, by decide +kernel⟩, List.mem_of_getElem? (i := 284) (by decide +kernel), List.mem_of_getElem? (i := 688) (by decide +kernel), List.mem_of_getElem? (i := 689) (by decide +kernel)⟩
theorem lw_p31 : lw_okq (⟨"NestedClips$Reader", "isSign", "(C)Z"⟩, 15) := ⟨⟨by decide +kernel, by decide +kernel⟩, List.mem_of_getElem? (i := 284) (by decide +kernel), List.mem_of_getElem? (i := 692) (by decide +kernel), List.mem_of_getElem? (i := 693) (by decide +kernel)⟩
def lw_privs_2 : List (MethodName × Nat) := [(⟨"NestedClips$Reader", "takeWord", "()V"⟩, 15), (⟨"NestedClips$Reader", "isDigit", "(I)Z"⟩, 15), (⟨"NestedClips$Reader", "takeNumber", "()V"⟩, 15), (⟨"NestedClips$Reader", "takeSign", "()V"⟩, 15), (⟨"NestedClips$Reader", "readClip", "()Z"⟩, 15), (⟨"NestedClips$Reader", "wordNumber", "()I"⟩, 15), (⟨"NestedClips$Reader", "cannotStand", "()Z"⟩, 15), (⟨"NestedClips$Reader", "failWith", "(I)Z"⟩, 15), (⟨"NestedClips$Reader", "readName", "(I)Z"⟩, 15), (⟨"NestedClips$Reader", "isName", "()Z"⟩, 15), (⟨"NestedClips$Reader", "readMark", "(I)Z"⟩, 15), (⟨"NestedClips$Reader", "readMarkNumber", "(II)Z"⟩, 15), (⟨"NestedClips$Reader", "mayBeNumber", "(II)Z"⟩, 15), (⟨"NestedClips$Reader", "readStart", "(II)Z"⟩, 15), (⟨"NestedClips$Reader", "readSign", "(I)Z"⟩, 15), (⟨"NestedClips$Reader", "isSign", "(C)Z"⟩, 15)]
theorem lw_r2 : ∀ q ∈ lw_privs_2, lw_okq q := List.forall_mem_cons.mpr ⟨lw_p16, List.forall_mem_cons.mpr ⟨lw_p17, List.forall_mem_cons.mpr ⟨lw_p18, List.forall_mem_cons.mpr ⟨lw_p19, List.forall_mem_cons.mpr ⟨lw_p20, List.forall_mem_cons.mpr ⟨lw_p21, List.forall_mem_cons.mpr ⟨lw_p22, List.forall_mem_cons.mpr ⟨lw_p23, List.forall_mem_cons.mpr ⟨lw_p24, List.forall_mem_cons.mpr ⟨lw_p25, List.forall_mem_cons.mpr ⟨lw_p26, List.forall_mem_cons.mpr ⟨lw_p27, List.forall_mem_cons.mpr ⟨lw_p28, List.forall_mem_cons.mpr ⟨lw_p29, List.forall_mem_cons.mpr ⟨lw_p30, List.forall_mem_cons.mpr ⟨lw_p31, fun _ h => absurd h List.not_mem_nil⟩⟩⟩⟩⟩⟩⟩⟩⟩⟩⟩⟩⟩⟩⟩⟩
theorem lw_p32 : lw_okq (⟨"NestedClips$Reader", "closeClip", "()Z"⟩, 15) := ⟨⟨by decide +kernel, by decide +kernel⟩, List.mem_of_getElem? (i := 284) (by decide +kernel), List.mem_of_getElem? (i := 696) (by decide +kernel), List.mem_of_getElem? (i := 697) (by decide +kernel)⟩
theorem lw_p33 : lw_okq (⟨"NestedClips$Reader", "findOthers", "()Z"⟩, 15) := ⟨⟨by decide +kernel, by decide +kernel⟩, List.mem_of_getElem? (i := 284) (by decide +kernel), List.mem_of_getElem? (i := 700) (by decide +kernel), List.mem_of_getElem? (i := 701) (by decide +kernel)⟩
theorem lw_p34 : lw_okq (⟨"NestedClips$Reader", "namedInOpen", "(J)I"⟩, 15) := ⟨⟨by decide +kernel, by decide +kernel⟩, List.mem_of_getElem? (i := 284) (by decide +kernel), List.mem_of_getElem? (i := 705) (by decide +kernel), List.mem_of_getElem? (i := 706) (by decide +kernel)⟩
theorem lw_p35 : lw_okq (⟨"NestedClips$Reader", "hasRing", "()Z"⟩, 15) := ⟨⟨by decide +kernel, by decide +kernel⟩, List.mem_of_getElem? (i := 284) (by decide +kernel), List.mem_of_getElem? (i := 709) (by decide +kernel), List.mem_of_getElem? (i := 710) (by decide +kernel)⟩
theorem lw_p36 : lw_okq (⟨"NestedClips$Reader", "readEnd", "()V"⟩, 15) := ⟨⟨by decide +kernel, by decide +kernel⟩, List.mem_of_getElem? (i := 284) (by decide +kernel), List.mem_of_getElem? (i := 718) (by decide +kernel), List.mem_of_getElem? (i := 719) (by decide +kernel)⟩
theorem lw_p37 : lw_okq (⟨"NestedClips", "act", "(I)I"⟩, 13) := ⟨⟨by decide +kernel, by decide +kernel⟩, List.mem_of_getElem? (i := 20) (by decide +kernel), List.mem_of_getElem? (i := 727) (by decide +kernel), List.mem_of_getElem? (i := 728) (by decide +kernel)⟩
theorem lw_p38 : lw_okq (⟨"NestedClips", "draftLasts", "()I"⟩, 13) := ⟨⟨by decide +kernel, by decide +kernel⟩, List.mem_of_getElem? (i := 20) (by decide +kernel), List.mem_of_getElem? (i := 731) (by decide +kernel), List.mem_of_getElem? (i := 732) (by decide +kernel)⟩
theorem lw_p39 : lw_okq (⟨"NestedClips", "give", "(I)I"⟩, 13) := ⟨⟨by decide +kernel, by decide +kernel⟩, List.mem_of_getElem? (i := 20) (by decide +kernel), List.mem_of_getElem? (i := 749) (by decide +kernel), List.mem_of_getElem? (i := 750) (by decide +kernel)⟩
theorem lw_p40 : lw_okq (⟨"NestedClips$Show", "bitsWithin", "(I)I"⟩, 11) := ⟨⟨by decide +kernel, by decide +kernel⟩, List.mem_of_getElem? (i := 28) (by decide +kernel), List.mem_of_getElem? (i := 780) (by decide +kernel), List.mem_of_getElem? (i := 781) (by decide +kernel)⟩
theorem lw_p41 : lw_okq (⟨"NestedClips$Show", "copyClip", "(III)V"⟩, 11) := ⟨⟨by decide +kernel, by decide +kernel⟩, List.mem_of_getElem? (i := 28) (by decide +kernel), List.mem_of_getElem? (i := 784) (by decide +kernel), List.mem_of_getElem? (i := 785) (by decide +kernel)⟩
theorem lw_p42 : lw_okq (⟨"NestedClips", "changes", "()I"⟩, 13) := ⟨⟨by decide +kernel, by decide +kernel⟩, List.mem_of_getElem? (i := 20) (by decide +kernel), List.mem_of_getElem? (i := 868) (by decide +kernel), List.mem_of_getElem? (i := 869) (by decide +kernel)⟩
theorem lw_p43 : lw_okq (⟨"NestedClips", "whyNotAt", "(II)I"⟩, 13) := ⟨⟨by decide +kernel, by decide +kernel⟩, List.mem_of_getElem? (i := 20) (by decide +kernel), List.mem_of_getElem? (i := 903) (by decide +kernel), List.mem_of_getElem? (i := 904) (by decide +kernel)⟩
theorem lw_p44 : lw_okq (⟨"NestedClips", "whyNotRunning", "(II)I"⟩, 13) := ⟨⟨by decide +kernel, by decide +kernel⟩, List.mem_of_getElem? (i := 20) (by decide +kernel), List.mem_of_getElem? (i := 911) (by decide +kernel), List.mem_of_getElem? (i := 912) (by decide +kernel)⟩
theorem lw_p45 : lw_okq (⟨"NestedClips", "whyNoLeaf", "(I)I"⟩, 13) := ⟨⟨by decide +kernel, by decide +kernel⟩, List.mem_of_getElem? (i := 20) (by decide +kernel), List.mem_of_getElem? (i := 957) (by decide +kernel), List.mem_of_getElem? (i := 958) (by decide +kernel)⟩
theorem lw_p46 : lw_okq (⟨"NestedClips$Stretch", "walk", "(IIZ)I"⟩, 6) := ⟨⟨by decide +kernel, by decide +kernel⟩, List.mem_of_getElem? (i := 220) (by decide +kernel), List.mem_of_getElem? (i := 982) (by decide +kernel), List.mem_of_getElem? (i := 983) (by decide +kernel)⟩
theorem lw_p47 : lw_okq (⟨"NestedClips$Stretch", "keepsStep", "(I)Z"⟩, 6) := ⟨⟨by decide +kernel, by decide +kernel⟩, List.mem_of_getElem? (i := 220) (by decide +kernel), List.mem_of_getElem? (i := 991) (by decide +kernel), List.mem_of_getElem? (i := 992) (by decide +kernel)⟩
def lw_privs_3 : List (MethodName × Nat) := [(⟨"NestedClips$Reader", "closeClip", "()Z"⟩, 15), (⟨"NestedClips$Reader", "findOthers", "()Z"⟩, 15), (⟨"NestedClips$Reader", "namedInOpen", "(J)I"⟩, 15), (⟨"NestedClips$Reader", "hasRing", "()Z"⟩, 15), (⟨"NestedClips$Reader", "readEnd", "()V"⟩, 15), (⟨"NestedClips", "act", "(I)I"⟩, 13), (⟨"NestedClips", "draftLasts", "()I"⟩, 13), (⟨"NestedClips", "give", "(I)I"⟩, 13), (⟨"NestedClips$Show", "bitsWithin", "(I)I"⟩, 11), (⟨"NestedClips$Show", "copyClip", "(III)V"⟩, 11), (⟨"NestedClips", "changes", "()I"⟩, 13), (⟨"NestedClips", "whyNotAt", "(II)I"⟩, 13), (⟨"NestedClips", "whyNotRunning", "(II)I"⟩, 13), (⟨"NestedClips", "whyNoLeaf", "(I)I"⟩, 13), (⟨"NestedClips$Stretch", "walk", "(IIZ)I"⟩, 6), (⟨"NestedClips$Stretch", "keepsStep", "(I)Z"⟩, 6)]
theorem lw_r3 : ∀ q ∈ lw_privs_3, lw_okq q := List.forall_mem_cons.mpr ⟨lw_p32, List.forall_mem_cons.mpr ⟨lw_p33, List.forall_mem_cons.mpr ⟨lw_p34, List.forall_mem_cons.mpr ⟨lw_p35, List.forall_mem_cons.mpr ⟨lw_p36, List.forall_mem_cons.mpr ⟨lw_p37, List.forall_mem_cons.mpr ⟨lw_p38, List.forall_mem_cons.mpr ⟨lw_p39, List.forall_mem_cons.mpr ⟨lw_p40, List.forall_mem_cons.mpr ⟨lw_p41, List.forall_mem_cons.mpr ⟨lw_p42, List.forall_mem_cons.mpr ⟨lw_p43, List.forall_mem_cons.mpr ⟨lw_p44, List.forall_mem_cons.mpr ⟨lw_p45, List.forall_mem_cons.mpr ⟨lw_p46, List.forall_mem_cons.mpr ⟨lw_p47, fun _ h => absurd h List.not_mem_nil⟩⟩⟩⟩⟩⟩⟩⟩⟩⟩⟩⟩⟩⟩⟩⟩
theorem lw_p48 : lw_okq (⟨"NestedClips$Stretch", "sortRow", "(I)V"⟩, 6) := ⟨⟨by decide +kernel, by decide +kernel⟩, List.mem_of_getElem? (i := 220) (by decide +kernel), List.mem_of_getElem? (i := 1031) (by decide +kernel), List.mem_of_getElem? (i := 1032) (by decide +kernel)⟩
theorem lw_p49 : lw_okq (⟨"NestedClips", "timesOfBoth", "(II)I"⟩, 13) := ⟨⟨by decide +kernel, by decide +kernel⟩, List.mem_of_getElem? (i := 20) (by decide +kernel), List.mem_of_getElem? (i := 1041) (by decide +kernel), List.mem_of_getElem? (i := 1042) (by decide +kernel)⟩
theorem lw_p50 : lw_okq (⟨"NestedClips", "leavesPlaying", "(I)I"⟩, 13) := ⟨⟨by decide +kernel, by decide +kernel⟩, List.mem_of_getElem? (i := 20) (by decide +kernel), List.mem_of_getElem? (i := 1066) (by decide +kernel), List.mem_of_getElem? (i := 1067) (by decide +kernel)⟩
theorem lw_p51 : lw_okq (⟨"NestedClips", "leastRate", "(II)I"⟩, 13) := ⟨⟨by decide +kernel, by decide +kernel⟩, List.mem_of_getElem? (i := 20) (by decide +kernel), List.mem_of_getElem? (i := 1079) (by decide +kernel), List.mem_of_getElem? (i := 1080) (by decide +kernel)⟩
theorem lw_p52 : lw_okq (⟨"NestedClips", "lastsWithMark", "(III)I"⟩, 13) := ⟨⟨by decide +kernel, by decide +kernel⟩, List.mem_of_getElem? (i := 20) (by decide +kernel), List.mem_of_getElem? (i := 1083) (by decide +kernel), List.mem_of_getElem? (i := 1084) (by decide +kernel)⟩
theorem lw_p53 : lw_okq (⟨"NestedClips", "leastMark", "(III)I"⟩, 13) := ⟨⟨by decide +kernel, by decide +kernel⟩, List.mem_of_getElem? (i := 20) (by decide +kernel), List.mem_of_getElem? (i := 1087) (by decide +kernel), List.mem_of_getElem? (i := 1088) (by decide +kernel)⟩
theorem lw_p54 : lw_okq (⟨"NestedClips$Reel", "remember", "(LNestedClips$Moment;I)V"⟩, 8) := ⟨⟨by decide +kernel, by decide +kernel⟩, List.mem_of_getElem? (i := 339) (by decide +kernel), List.mem_of_getElem? (i := 1112) (by decide +kernel), List.mem_of_getElem? (i := 1113) (by decide +kernel)⟩
theorem lw_p55 : lw_okq (⟨"NestedClips$Reel", "noteEvent", "(LNestedClips$Moment;I)V"⟩, 8) := ⟨⟨by decide +kernel, by decide +kernel⟩, List.mem_of_getElem? (i := 339) (by decide +kernel), List.mem_of_getElem? (i := 1116) (by decide +kernel), List.mem_of_getElem? (i := 1117) (by decide +kernel)⟩
theorem lw_p56 : lw_okq (⟨"NestedClips$Reel", "keepEvent", "(III)V"⟩, 8) := ⟨⟨by decide +kernel, by decide +kernel⟩, List.mem_of_getElem? (i := 339) (by decide +kernel), List.mem_of_getElem? (i := 1120) (by decide +kernel), List.mem_of_getElem? (i := 1121) (by decide +kernel)⟩
theorem lw_p57 : lw_okq (⟨"NestedClipsModel", "lays", "(I)V"⟩, 50) := ⟨⟨by decide +kernel, by decide +kernel⟩, List.mem_of_getElem? (i := 1128) (by decide +kernel), List.mem_of_getElem? (i := 1309) (by decide +kernel), List.mem_of_getElem? (i := 1310) (by decide +kernel)⟩
theorem lw_p58 : lw_okq (⟨"NestedClipsModel", "refuse", "(I)I"⟩, 50) := ⟨⟨by decide +kernel, by decide +kernel⟩, List.mem_of_getElem? (i := 1128) (by decide +kernel), List.mem_of_getElem? (i := 1320) (by decide +kernel), List.mem_of_getElem? (i := 1321) (by decide +kernel)⟩
theorem lw_p59 : lw_okq (⟨"NestedClipsModel", "isShow", "(I)Z"⟩, 50) := ⟨⟨by decide +kernel, by decide +kernel⟩, List.mem_of_getElem? (i := 1128) (by decide +kernel), List.mem_of_getElem? (i := 1324) (by decide +kernel), List.mem_of_getElem? (i := 1325) (by decide +kernel)⟩
theorem lw_p60 : lw_okq (⟨"NestedClipsModel", "reads", "()V"⟩, 50) := ⟨⟨by decide +kernel, by decide +kernel⟩, List.mem_of_getElem? (i := 1128) (by decide +kernel), List.mem_of_getElem? (i := 1328) (by decide +kernel), List.mem_of_getElem? (i := 1329) (by decide +kernel)⟩
theorem lw_p61 : lw_okq (⟨"NestedClipsModel", "isOf", "(III)Z"⟩, 50) := ⟨⟨by decide +kernel, by decide +kernel⟩, List.mem_of_getElem? (i := 1128) (by decide +kernel), List.mem_of_getElem? (i := 1332) (by decide +kernel), List.mem_of_getElem? (i := 1333) (by decide +kernel)⟩
theorem lw_p62 : lw_okq (⟨"NestedClipsModel", "readsClip", "(II)V"⟩, 50) := ⟨⟨by decide +kernel, by decide +kernel⟩, List.mem_of_getElem? (i := 1128) (by decide +kernel), List.mem_of_getElem? (i := 1338) (by decide +kernel), List.mem_of_getElem? (i := 1339) (by decide +kernel)⟩
theorem lw_p63 : lw_okq (⟨"NestedClipsModel", "key", "()I"⟩, 50) := ⟨⟨by decide +kernel, by decide +kernel⟩, List.mem_of_getElem? (i := 1128) (by decide +kernel), List.mem_of_getElem? (i := 1342) (by decide +kernel), List.mem_of_getElem? (i := 1343) (by decide +kernel)⟩
def lw_privs_4 : List (MethodName × Nat) := [(⟨"NestedClips$Stretch", "sortRow", "(I)V"⟩, 6), (⟨"NestedClips", "timesOfBoth", "(II)I"⟩, 13), (⟨"NestedClips", "leavesPlaying", "(I)I"⟩, 13), (⟨"NestedClips", "leastRate", "(II)I"⟩, 13), (⟨"NestedClips", "lastsWithMark", "(III)I"⟩, 13), (⟨"NestedClips", "leastMark", "(III)I"⟩, 13), (⟨"NestedClips$Reel", "remember", "(LNestedClips$Moment;I)V"⟩, 8), (⟨"NestedClips$Reel", "noteEvent", "(LNestedClips$Moment;I)V"⟩, 8), (⟨"NestedClips$Reel", "keepEvent", "(III)V"⟩, 8), (⟨"NestedClipsModel", "lays", "(I)V"⟩, 50), (⟨"NestedClipsModel", "refuse", "(I)I"⟩, 50), (⟨"NestedClipsModel", "isShow", "(I)Z"⟩, 50), (⟨"NestedClipsModel", "reads", "()V"⟩, 50), (⟨"NestedClipsModel", "isOf", "(III)Z"⟩, 50), (⟨"NestedClipsModel", "readsClip", "(II)V"⟩, 50), (⟨"NestedClipsModel", "key", "()I"⟩, 50)]
theorem lw_r4 : ∀ q ∈ lw_privs_4, lw_okq q := List.forall_mem_cons.mpr ⟨lw_p48, List.forall_mem_cons.mpr ⟨lw_p49, List.forall_mem_cons.mpr ⟨lw_p50, List.forall_mem_cons.mpr ⟨lw_p51, List.forall_mem_cons.mpr ⟨lw_p52, List.forall_mem_cons.mpr ⟨lw_p53, List.forall_mem_cons.mpr ⟨lw_p54, List.forall_mem_cons.mpr ⟨lw_p55, List.forall_mem_cons.mpr ⟨lw_p56, List.forall_mem_cons.mpr ⟨lw_p57, List.forall_mem_cons.mpr ⟨lw_p58, List.forall_mem_cons.mpr ⟨lw_p59, List.forall_mem_cons.mpr ⟨lw_p60, List.forall_mem_cons.mpr ⟨lw_p61, List.forall_mem_cons.mpr ⟨lw_p62, List.forall_mem_cons.mpr ⟨lw_p63, fun _ h => absurd h List.not_mem_nil⟩⟩⟩⟩⟩⟩⟩⟩⟩⟩⟩⟩⟩⟩⟩⟩
theorem lw_p64 : lw_okq (⟨"NestedClipsModel", "wants", "(ZI)V"⟩, 50) := ⟨⟨by decide +kernel, by decide +kernel⟩, List.mem_of_getElem? (i := 1128) (by decide +kernel), List.mem_of_getElem? (i := 1346) (by decide +kernel), List.mem_of_getElem? (i := 1347) (by decide +kernel)⟩
theorem lw_p65 : lw_okq (⟨"NestedClipsModel", "fails", "(I)V"⟩, 50) := ⟨⟨by decide +kernel, by decide +kernel⟩, List.mem_of_getElem? (i := 1128) (by decide +kernel), List.mem_of_getElem? (i := 1350) (by decide +kernel), List.mem_of_getElem? (i := 1351) (by decide +kernel)⟩
theorem lw_p66 : lw_okq (⟨"NestedClipsModel", "depth", "(I)I"⟩, 50) := ⟨⟨by decide +kernel, by decide +kernel⟩, List.mem_of_getElem? (i := 1128) (by decide +kernel), List.mem_of_getElem? (i := 1354) (by decide +kernel), List.mem_of_getElem? (i := 1355) (by decide +kernel)⟩
theorem lw_p67 : lw_okq (⟨"NestedClipsModel", "begins", "(IIII)V"⟩, 50) := ⟨⟨by decide +kernel, by decide +kernel⟩, List.mem_of_getElem? (i := 1128) (by decide +kernel), List.mem_of_getElem? (i := 1358) (by decide +kernel), List.mem_of_getElem? (i := 1359) (by decide +kernel)⟩
theorem lw_p68 : lw_okq (⟨"NestedClipsModel", "readsName", "(I)V"⟩, 50) := ⟨⟨by decide +kernel, by decide +kernel⟩, List.mem_of_getElem? (i := 1128) (by decide +kernel), List.mem_of_getElem? (i := 1362) (by decide +kernel), List.mem_of_getElem? (i := 1363) (by decide +kernel)⟩
theorem lw_p69 : lw_okq (⟨"NestedClipsModel", "isName", "()Z"⟩, 50) := ⟨⟨by decide +kernel, by decide +kernel⟩, List.mem_of_getElem? (i := 1128) (by decide +kernel), List.mem_of_getElem? (i := 1366) (by decide +kernel), List.mem_of_getElem? (i := 1367) (by decide +kernel)⟩
theorem lw_p70 : lw_okq (⟨"NestedClipsModel", "readsMark", "(II)V"⟩, 50) := ⟨⟨by decide +kernel, by decide +kernel⟩, List.mem_of_getElem? (i := 1128) (by decide +kernel), List.mem_of_getElem? (i := 1370) (by decide +kernel), List.mem_of_getElem? (i := 1371) (by decide +kernel)⟩
theorem lw_p71 : lw_okq (⟨"NestedClipsModel", "takesNumber", "(II)I"⟩, 50) := ⟨⟨by decide +kernel, by decide +kernel⟩, List.mem_of_getElem? (i := 1128) (by decide +kernel), List.mem_of_getElem? (i := 1374) (by decide +kernel), List.mem_of_getElem? (i := 1375) (by decide +kernel)⟩
theorem lw_p72 : lw_okq (⟨"NestedClipsModel", "readsStart", "(II)V"⟩, 50) := ⟨⟨by decide +kernel, by decide +kernel⟩, List.mem_of_getElem? (i := 1128) (by decide +kernel), List.mem_of_getElem? (i := 1378) (by decide +kernel), List.mem_of_getElem? (i := 1379) (by decide +kernel)⟩
theorem lw_p73 : lw_okq (⟨"NestedClipsModel", "sign", "(I)V"⟩, 50) := ⟨⟨by decide +kernel, by decide +kernel⟩, List.mem_of_getElem? (i := 1128) (by decide +kernel), List.mem_of_getElem? (i := 1382) (by decide +kernel), List.mem_of_getElem? (i := 1383) (by decide +kernel)⟩
theorem lw_p74 : lw_okq (⟨"NestedClipsModel", "isSign", "(I)Z"⟩, 50) := ⟨⟨by decide +kernel, by decide +kernel⟩, List.mem_of_getElem? (i := 1128) (by decide +kernel), List.mem_of_getElem? (i := 1386) (by decide +kernel), List.mem_of_getElem? (i := 1387) (by decide +kernel)⟩
theorem lw_p75 : lw_okq (⟨"NestedClipsModel", "binds", "(I)V"⟩, 50) := ⟨⟨by decide +kernel, by decide +kernel⟩, List.mem_of_getElem? (i := 1128) (by decide +kernel), List.mem_of_getElem? (i := 1390) (by decide +kernel), List.mem_of_getElem? (i := 1391) (by decide +kernel)⟩
theorem lw_p76 : lw_okq (⟨"NestedClipsModel", "isByOther", "(II)Z"⟩, 50) := ⟨⟨by decide +kernel, by decide +kernel⟩, List.mem_of_getElem? (i := 1128) (by decide +kernel), List.mem_of_getElem? (i := 1394) (by decide +kernel), List.mem_of_getElem? (i := 1395) (by decide +kernel)⟩
theorem lw_p77 : lw_okq (⟨"NestedClipsModel", "namedIn", "(IIJ)I"⟩, 50) := ⟨⟨by decide +kernel, by decide +kernel⟩, List.mem_of_getElem? (i := 1128) (by decide +kernel), List.mem_of_getElem? (i := 1398) (by decide +kernel), List.mem_of_getElem? (i := 1399) (by decide +kernel)⟩
theorem lw_p78 : lw_okq (⟨"NestedClipsModel", "isRound", "(II)Z"⟩, 50) := ⟨⟨by decide +kernel, by decide +kernel⟩, List.mem_of_getElem? (i := 1128) (by decide +kernel), List.mem_of_getElem? (i := 1402) (by decide +kernel), List.mem_of_getElem? (i := 1403) (by decide +kernel)⟩
theorem lw_p79 : lw_okq (⟨"NestedClipsModel", "swaps", "()V"⟩, 50) := ⟨⟨by decide +kernel, by decide +kernel⟩, List.mem_of_getElem? (i := 1128) (by decide +kernel), List.mem_of_getElem? (i := 1406) (by decide +kernel), List.mem_of_getElem? (i := 1407) (by decide +kernel)⟩
def lw_privs_5 : List (MethodName × Nat) := [(⟨"NestedClipsModel", "wants", "(ZI)V"⟩, 50), (⟨"NestedClipsModel", "fails", "(I)V"⟩, 50), (⟨"NestedClipsModel", "depth", "(I)I"⟩, 50), (⟨"NestedClipsModel", "begins", "(IIII)V"⟩, 50), (⟨"NestedClipsModel", "readsName", "(I)V"⟩, 50), (⟨"NestedClipsModel", "isName", "()Z"⟩, 50), (⟨"NestedClipsModel", "readsMark", "(II)V"⟩, 50), (⟨"NestedClipsModel", "takesNumber", "(II)I"⟩, 50), (⟨"NestedClipsModel", "readsStart", "(II)V"⟩, 50), (⟨"NestedClipsModel", "sign", "(I)V"⟩, 50), (⟨"NestedClipsModel", "isSign", "(I)Z"⟩, 50), (⟨"NestedClipsModel", "binds", "(I)V"⟩, 50), (⟨"NestedClipsModel", "isByOther", "(II)Z"⟩, 50), (⟨"NestedClipsModel", "namedIn", "(IIJ)I"⟩, 50), (⟨"NestedClipsModel", "isRound", "(II)Z"⟩, 50), (⟨"NestedClipsModel", "swaps", "()V"⟩, 50)]
theorem lw_r5 : ∀ q ∈ lw_privs_5, lw_okq q := List.forall_mem_cons.mpr ⟨lw_p64, List.forall_mem_cons.mpr ⟨lw_p65, List.forall_mem_cons.mpr ⟨lw_p66, List.forall_mem_cons.mpr ⟨lw_p67, List.forall_mem_cons.mpr ⟨lw_p68, List.forall_mem_cons.mpr ⟨lw_p69, List.forall_mem_cons.mpr ⟨lw_p70, List.forall_mem_cons.mpr ⟨lw_p71, List.forall_mem_cons.mpr ⟨lw_p72, List.forall_mem_cons.mpr ⟨lw_p73, List.forall_mem_cons.mpr ⟨lw_p74, List.forall_mem_cons.mpr ⟨lw_p75, List.forall_mem_cons.mpr ⟨lw_p76, List.forall_mem_cons.mpr ⟨lw_p77, List.forall_mem_cons.mpr ⟨lw_p78, List.forall_mem_cons.mpr ⟨lw_p79, fun _ h => absurd h List.not_mem_nil⟩⟩⟩⟩⟩⟩⟩⟩⟩⟩⟩⟩⟩⟩⟩⟩
theorem lw_p80 : lw_okq (⟨"NestedClipsModel", "lasts", "()J"⟩, 50) := ⟨⟨by decide +kernel, by decide +kernel⟩, List.mem_of_getElem? (i := 1128) (by decide +kernel), List.mem_of_getElem? (i := 1410) (by decide +kernel), List.mem_of_getElem? (i := 1411) (by decide +kernel)⟩
theorem lw_p81 : lw_okq (⟨"NestedClipsModel", "laysAll", "()V"⟩, 50) := ⟨⟨by decide +kernel, by decide +kernel⟩, List.mem_of_getElem? (i := 1128) (by decide +kernel), List.mem_of_getElem? (i := 1414) (by decide +kernel), List.mem_of_getElem? (i := 1415) (by decide +kernel)⟩
theorem lw_p82 : lw_okq (⟨"NestedClipsModel", "clips", "()I"⟩, 50) := ⟨⟨by decide +kernel, by decide +kernel⟩, List.mem_of_getElem? (i := 1128) (by decide +kernel), List.mem_of_getElem? (i := 1418) (by decide +kernel), List.mem_of_getElem? (i := 1419) (by decide +kernel)⟩
theorem lw_p83 : lw_okq (⟨"NestedClipsModel", "kind", "(I)I"⟩, 50) := ⟨⟨by decide +kernel, by decide +kernel⟩, List.mem_of_getElem? (i := 1128) (by decide +kernel), List.mem_of_getElem? (i := 1423) (by decide +kernel), List.mem_of_getElem? (i := 1424) (by decide +kernel)⟩
theorem lw_p84 : lw_okq (⟨"NestedClipsModel", "laysHeap", "(I)V"⟩, 50) := ⟨⟨by decide +kernel, by decide +kernel⟩, List.mem_of_getElem? (i := 1128) (by decide +kernel), List.mem_of_getElem? (i := 1427) (by decide +kernel), List.mem_of_getElem? (i := 1428) (by decide +kernel)⟩
theorem lw_p85 : lw_okq (⟨"NestedClipsModel", "around", "(I)I"⟩, 50) := ⟨⟨by decide +kernel, by decide +kernel⟩, List.mem_of_getElem? (i := 1128) (by decide +kernel), List.mem_of_getElem? (i := 1431) (by decide +kernel), List.mem_of_getElem? (i := 1432) (by decide +kernel)⟩
theorem lw_p86 : lw_okq (⟨"NestedClipsModel", "laysRow", "(I)V"⟩, 50) := ⟨⟨by decide +kernel, by decide +kernel⟩, List.mem_of_getElem? (i := 1128) (by decide +kernel), List.mem_of_getElem? (i := 1435) (by decide +kernel), List.mem_of_getElem? (i := 1436) (by decide +kernel)⟩
theorem lw_p87 : lw_okq (⟨"NestedClipsModel", "manyIn", "(I)I"⟩, 50) := ⟨⟨by decide +kernel, by decide +kernel⟩, List.mem_of_getElem? (i := 1128) (by decide +kernel), List.mem_of_getElem? (i := 1439) (by decide +kernel), List.mem_of_getElem? (i := 1440) (by decide +kernel)⟩
theorem lw_p88 : lw_okq (⟨"NestedClipsModel", "inPlace", "(II)I"⟩, 50) := ⟨⟨by decide +kernel, by decide +kernel⟩, List.mem_of_getElem? (i := 1128) (by decide +kernel), List.mem_of_getElem? (i := 1443) (by decide +kernel), List.mem_of_getElem? (i := 1444) (by decide +kernel)⟩
theorem lw_p89 : lw_okq (⟨"NestedClipsModel", "marked", "(II)I"⟩, 50) := ⟨⟨by decide +kernel, by decide +kernel⟩, List.mem_of_getElem? (i := 1128) (by decide +kernel), List.mem_of_getElem? (i := 1447) (by decide +kernel), List.mem_of_getElem? (i := 1448) (by decide +kernel)⟩
theorem lw_p90 : lw_okq (⟨"NestedClipsModel", "stays", "()V"⟩, 50) := ⟨⟨by decide +kernel, by decide +kernel⟩, List.mem_of_getElem? (i := 1128) (by decide +kernel), List.mem_of_getElem? (i := 1452) (by decide +kernel), List.mem_of_getElem? (i := 1453) (by decide +kernel)⟩
theorem lw_p91 : lw_okq (⟨"NestedClipsModel", "copy", "(II)V"⟩, 50) := ⟨⟨by decide +kernel, by decide +kernel⟩, List.mem_of_getElem? (i := 1128) (by decide +kernel), List.mem_of_getElem? (i := 1456) (by decide +kernel), List.mem_of_getElem? (i := 1457) (by decide +kernel)⟩
theorem lw_p92 : lw_okq (⟨"NestedClipsModel", "isClip", "(I)Z"⟩, 50) := ⟨⟨by decide +kernel, by decide +kernel⟩, List.mem_of_getElem? (i := 1128) (by decide +kernel), List.mem_of_getElem? (i := 1468) (by decide +kernel), List.mem_of_getElem? (i := 1469) (by decide +kernel)⟩
theorem lw_p93 : lw_okq (⟨"NestedClipsModel", "depthNow", "(I)I"⟩, 50) := ⟨⟨by decide +kernel, by decide +kernel⟩, List.mem_of_getElem? (i := 1128) (by decide +kernel), List.mem_of_getElem? (i := 1472) (by decide +kernel), List.mem_of_getElem? (i := 1473) (by decide +kernel)⟩
theorem lw_p94 : lw_okq (⟨"NestedClipsModel", "copyClip", "(III)V"⟩, 50) := ⟨⟨by decide +kernel, by decide +kernel⟩, List.mem_of_getElem? (i := 1128) (by decide +kernel), List.mem_of_getElem? (i := 1476) (by decide +kernel), List.mem_of_getElem? (i := 1477) (by decide +kernel)⟩
theorem lw_p95 : lw_okq (⟨"NestedClipsModel", "keeps", "()V"⟩, 50) := ⟨⟨by decide +kernel, by decide +kernel⟩, List.mem_of_getElem? (i := 1128) (by decide +kernel), List.mem_of_getElem? (i := 1480) (by decide +kernel), List.mem_of_getElem? (i := 1481) (by decide +kernel)⟩
def lw_privs_6 : List (MethodName × Nat) := [(⟨"NestedClipsModel", "lasts", "()J"⟩, 50), (⟨"NestedClipsModel", "laysAll", "()V"⟩, 50), (⟨"NestedClipsModel", "clips", "()I"⟩, 50), (⟨"NestedClipsModel", "kind", "(I)I"⟩, 50), (⟨"NestedClipsModel", "laysHeap", "(I)V"⟩, 50), (⟨"NestedClipsModel", "around", "(I)I"⟩, 50), (⟨"NestedClipsModel", "laysRow", "(I)V"⟩, 50), (⟨"NestedClipsModel", "manyIn", "(I)I"⟩, 50), (⟨"NestedClipsModel", "inPlace", "(II)I"⟩, 50), (⟨"NestedClipsModel", "marked", "(II)I"⟩, 50), (⟨"NestedClipsModel", "stays", "()V"⟩, 50), (⟨"NestedClipsModel", "copy", "(II)V"⟩, 50), (⟨"NestedClipsModel", "isClip", "(I)Z"⟩, 50), (⟨"NestedClipsModel", "depthNow", "(I)I"⟩, 50), (⟨"NestedClipsModel", "copyClip", "(III)V"⟩, 50), (⟨"NestedClipsModel", "keeps", "()V"⟩, 50)]
theorem lw_r6 : ∀ q ∈ lw_privs_6, lw_okq q := List.forall_mem_cons.mpr ⟨lw_p80, List.forall_mem_cons.mpr ⟨lw_p81, List.forall_mem_cons.mpr ⟨lw_p82, List.forall_mem_cons.mpr ⟨lw_p83, List.forall_mem_cons.mpr ⟨lw_p84, List.forall_mem_cons.mpr ⟨lw_p85, List.forall_mem_cons.mpr ⟨lw_p86, List.forall_mem_cons.mpr ⟨lw_p87, List.forall_mem_cons.mpr ⟨lw_p88, List.forall_mem_cons.mpr ⟨lw_p89, List.forall_mem_cons.mpr ⟨lw_p90, List.forall_mem_cons.mpr ⟨lw_p91, List.forall_mem_cons.mpr ⟨lw_p92, List.forall_mem_cons.mpr ⟨lw_p93, List.forall_mem_cons.mpr ⟨lw_p94, List.forall_mem_cons.mpr ⟨lw_p95, fun _ h => absurd h List.not_mem_nil⟩⟩⟩⟩⟩⟩⟩⟩⟩⟩⟩⟩⟩⟩⟩⟩
theorem lw_p96 : lw_okq (⟨"NestedClipsModel", "isWithin", "(II)Z"⟩, 50) := ⟨⟨by decide +kernel, by decide +kernel⟩, List.mem_of_getElem? (i := 1128) (by decide +kernel), List.mem_of_getElem? (i := 1488) (by decide +kernel), List.mem_of_getElem? (i := 1489) (by decide +kernel)⟩
theorem lw_p97 : lw_okq (⟨"NestedClipsModel", "numberBehind", "(II)I"⟩, 50) := ⟨⟨by decide +kernel, by decide +kernel⟩, List.mem_of_getElem? (i := 1128) (by decide +kernel), List.mem_of_getElem? (i := 1492) (by decide +kernel), List.mem_of_getElem? (i := 1493) (by decide +kernel)⟩
theorem lw_p98 : lw_okq (⟨"NestedClipsModel", "tries", "()V"⟩, 50) := ⟨⟨by decide +kernel, by decide +kernel⟩, List.mem_of_getElem? (i := 1128) (by decide +kernel), List.mem_of_getElem? (i := 1500) (by decide +kernel), List.mem_of_getElem? (i := 1501) (by decide +kernel)⟩
theorem lw_p99 : lw_okq (⟨"NestedClipsModel", "takesBack", "()Z"⟩, 50) := ⟨⟨by decide +kernel, by decide +kernel⟩, List.mem_of_getElem? (i := 1128) (by decide +kernel), List.mem_of_getElem? (i := 1504) (by decide +kernel), List.mem_of_getElem? (i := 1505) (by decide +kernel)⟩
theorem lw_p100 : lw_okq (⟨"NestedClipsModel", "isInHeap", "(I)Z"⟩, 50) := ⟨⟨by decide +kernel, by decide +kernel⟩, List.mem_of_getElem? (i := 1128) (by decide +kernel), List.mem_of_getElem? (i := 1519) (by decide +kernel), List.mem_of_getElem? (i := 1520) (by decide +kernel)⟩
theorem lw_p101 : lw_okq (⟨"NestedClipsModel", "leaves", "()I"⟩, 50) := ⟨⟨by decide +kernel, by decide +kernel⟩, List.mem_of_getElem? (i := 1128) (by decide +kernel), List.mem_of_getElem? (i := 1539) (by decide +kernel), List.mem_of_getElem? (i := 1540) (by decide +kernel)⟩
theorem lw_p102 : lw_okq (⟨"NestedClipsModel", "opensMany", "()I"⟩, 50) := ⟨⟨by decide +kernel, by decide +kernel⟩, List.mem_of_getElem? (i := 1128) (by decide +kernel), List.mem_of_getElem? (i := 1543) (by decide +kernel), List.mem_of_getElem? (i := 1544) (by decide +kernel)⟩
theorem lw_p103 : lw_okq (⟨"NestedClipsModel", "changes", "()I"⟩, 50) := ⟨⟨by decide +kernel, by decide +kernel⟩, List.mem_of_getElem? (i := 1128) (by decide +kernel), List.mem_of_getElem? (i := 1547) (by decide +kernel), List.mem_of_getElem? (i := 1548) (by decide +kernel)⟩
theorem lw_p104 : lw_okq (⟨"NestedClipsModel", "laysPresses", "()V"⟩, 50) := ⟨⟨by decide +kernel, by decide +kernel⟩, List.mem_of_getElem? (i := 1128) (by decide +kernel), List.mem_of_getElem? (i := 1551) (by decide +kernel), List.mem_of_getElem? (i := 1552) (by decide +kernel)⟩
theorem lw_p105 : lw_okq (⟨"NestedClipsModel", "sortsPresses", "()V"⟩, 50) := ⟨⟨by decide +kernel, by decide +kernel⟩, List.mem_of_getElem? (i := 1128) (by decide +kernel), List.mem_of_getElem? (i := 1555) (by decide +kernel), List.mem_of_getElem? (i := 1556) (by decide +kernel)⟩
theorem lw_p106 : lw_okq (⟨"NestedClipsModel", "laysSlot", "(II)V"⟩, 50) := ⟨⟨by decide +kernel, by decide +kernel⟩, List.mem_of_getElem? (i := 1128) (by decide +kernel), List.mem_of_getElem? (i := 1559) (by decide +kernel), List.mem_of_getElem? (i := 1560) (by decide +kernel)⟩
theorem lw_p107 : lw_okq (⟨"NestedClipsModel", "laysClip", "(IIJI)V"⟩, 50) := ⟨⟨by decide +kernel, by decide +kernel⟩, List.mem_of_getElem? (i := 1128) (by decide +kernel), List.mem_of_getElem? (i := 1564) (by decide +kernel), List.mem_of_getElem? (i := 1565) (by decide +kernel)⟩
theorem lw_p108 : lw_okq (⟨"NestedClipsModel", "beginAt", "(III)J"⟩, 50) := ⟨⟨by decide +kernel, by decide +kernel⟩, List.mem_of_getElem? (i := 1128) (by decide +kernel), List.mem_of_getElem? (i := 1568) (by decide +kernel), List.mem_of_getElem? (i := 1569) (by decide +kernel)⟩
theorem lw_p109 : lw_okq (⟨"NestedClipsModel", "byPress", "(III)J"⟩, 50) := ⟨⟨by decide +kernel, by decide +kernel⟩, List.mem_of_getElem? (i := 1128) (by decide +kernel), List.mem_of_getElem? (i := 1572) (by decide +kernel), List.mem_of_getElem? (i := 1573) (by decide +kernel)⟩
theorem lw_p110 : lw_okq (⟨"NestedClipsModel", "samePasses", "(III)Z"⟩, 50) := ⟨⟨by decide +kernel, by decide +kernel⟩, List.mem_of_getElem? (i := 1128) (by decide +kernel), List.mem_of_getElem? (i := 1576) (by decide +kernel), List.mem_of_getElem? (i := 1577) (by decide +kernel)⟩
theorem lw_p111 : lw_okq (⟨"NestedClipsModel", "strengthBy", "(IIJ)I"⟩, 50) := ⟨⟨by decide +kernel, by decide +kernel⟩, List.mem_of_getElem? (i := 1128) (by decide +kernel), List.mem_of_getElem? (i := 1580) (by decide +kernel), List.mem_of_getElem? (i := 1581) (by decide +kernel)⟩
def lw_privs_7 : List (MethodName × Nat) := [(⟨"NestedClipsModel", "isWithin", "(II)Z"⟩, 50), (⟨"NestedClipsModel", "numberBehind", "(II)I"⟩, 50), (⟨"NestedClipsModel", "tries", "()V"⟩, 50), (⟨"NestedClipsModel", "takesBack", "()Z"⟩, 50), (⟨"NestedClipsModel", "isInHeap", "(I)Z"⟩, 50), (⟨"NestedClipsModel", "leaves", "()I"⟩, 50), (⟨"NestedClipsModel", "opensMany", "()I"⟩, 50), (⟨"NestedClipsModel", "changes", "()I"⟩, 50), (⟨"NestedClipsModel", "laysPresses", "()V"⟩, 50), (⟨"NestedClipsModel", "sortsPresses", "()V"⟩, 50), (⟨"NestedClipsModel", "laysSlot", "(II)V"⟩, 50), (⟨"NestedClipsModel", "laysClip", "(IIJI)V"⟩, 50), (⟨"NestedClipsModel", "beginAt", "(III)J"⟩, 50), (⟨"NestedClipsModel", "byPress", "(III)J"⟩, 50), (⟨"NestedClipsModel", "samePasses", "(III)Z"⟩, 50), (⟨"NestedClipsModel", "strengthBy", "(IIJ)I"⟩, 50)]
theorem lw_r7 : ∀ q ∈ lw_privs_7, lw_okq q := List.forall_mem_cons.mpr ⟨lw_p96, List.forall_mem_cons.mpr ⟨lw_p97, List.forall_mem_cons.mpr ⟨lw_p98, List.forall_mem_cons.mpr ⟨lw_p99, List.forall_mem_cons.mpr ⟨lw_p100, List.forall_mem_cons.mpr ⟨lw_p101, List.forall_mem_cons.mpr ⟨lw_p102, List.forall_mem_cons.mpr ⟨lw_p103, List.forall_mem_cons.mpr ⟨lw_p104, List.forall_mem_cons.mpr ⟨lw_p105, List.forall_mem_cons.mpr ⟨lw_p106, List.forall_mem_cons.mpr ⟨lw_p107, List.forall_mem_cons.mpr ⟨lw_p108, List.forall_mem_cons.mpr ⟨lw_p109, List.forall_mem_cons.mpr ⟨lw_p110, List.forall_mem_cons.mpr ⟨lw_p111, fun _ h => absurd h List.not_mem_nil⟩⟩⟩⟩⟩⟩⟩⟩⟩⟩⟩⟩⟩⟩⟩⟩
theorem lw_p112 : lw_okq (⟨"NestedClipsModel", "isChange", "(I)Z"⟩, 50) := ⟨⟨by decide +kernel, by decide +kernel⟩, List.mem_of_getElem? (i := 1128) (by decide +kernel), List.mem_of_getElem? (i := 1588) (by decide +kernel), List.mem_of_getElem? (i := 1589) (by decide +kernel)⟩
theorem lw_p113 : lw_okq (⟨"NestedClipsModel", "asks", "(II)Z"⟩, 50) := ⟨⟨by decide +kernel, by decide +kernel⟩, List.mem_of_getElem? (i := 1128) (by decide +kernel), List.mem_of_getElem? (i := 1612) (by decide +kernel), List.mem_of_getElem? (i := 1613) (by decide +kernel)⟩
theorem lw_p114 : lw_okq (⟨"NestedClipsModel", "stateOf", "(I)I"⟩, 50) := ⟨⟨by decide +kernel, by decide +kernel⟩, List.mem_of_getElem? (i := 1128) (by decide +kernel), List.mem_of_getElem? (i := 1616) (by decide +kernel), List.mem_of_getElem? (i := 1617) (by decide +kernel)⟩
theorem lw_p115 : lw_okq (⟨"NestedClipsModel", "localOf", "(I)J"⟩, 50) := ⟨⟨by decide +kernel, by decide +kernel⟩, List.mem_of_getElem? (i := 1128) (by decide +kernel), List.mem_of_getElem? (i := 1624) (by decide +kernel), List.mem_of_getElem? (i := 1625) (by decide +kernel)⟩
theorem lw_p116 : lw_okq (⟨"NestedClipsModel", "setOf", "(I)I"⟩, 50) := ⟨⟨by decide +kernel, by decide +kernel⟩, List.mem_of_getElem? (i := 1128) (by decide +kernel), List.mem_of_getElem? (i := 1636) (by decide +kernel), List.mem_of_getElem? (i := 1637) (by decide +kernel)⟩
theorem lw_p117 : lw_okq (⟨"NestedClipsModel", "laysStanding", "()V"⟩, 50) := ⟨⟨by decide +kernel, by decide +kernel⟩, List.mem_of_getElem? (i := 1128) (by decide +kernel), List.mem_of_getElem? (i := 1652) (by decide +kernel), List.mem_of_getElem? (i := 1653) (by decide +kernel)⟩
theorem lw_p118 : lw_okq (⟨"NestedClipsModel", "standsAhead", "(II)Z"⟩, 50) := ⟨⟨by decide +kernel, by decide +kernel⟩, List.mem_of_getElem? (i := 1128) (by decide +kernel), List.mem_of_getElem? (i := 1656) (by decide +kernel), List.mem_of_getElem? (i := 1657) (by decide +kernel)⟩
theorem lw_p119 : lw_okq (⟨"NestedClipsModel", "laysShares", "(I)V"⟩, 50) := ⟨⟨by decide +kernel, by decide +kernel⟩, List.mem_of_getElem? (i := 1128) (by decide +kernel), List.mem_of_getElem? (i := 1660) (by decide +kernel), List.mem_of_getElem? (i := 1661) (by decide +kernel)⟩
theorem lw_p120 : lw_okq (⟨"NestedClipsModel", "asksLight", "(I)Z"⟩, 50) := ⟨⟨by decide +kernel, by decide +kernel⟩, List.mem_of_getElem? (i := 1128) (by decide +kernel), List.mem_of_getElem? (i := 1668) (by decide +kernel), List.mem_of_getElem? (i := 1669) (by decide +kernel)⟩
theorem lw_p121 : lw_okq (⟨"NestedClipsModel", "asksLeaf", "(I)Z"⟩, 50) := ⟨⟨by decide +kernel, by decide +kernel⟩, List.mem_of_getElem? (i := 1128) (by decide +kernel), List.mem_of_getElem? (i := 1680) (by decide +kernel), List.mem_of_getElem? (i := 1681) (by decide +kernel)⟩
theorem lw_p122 : lw_okq (⟨"NestedClipsModel", "laysLights", "()V"⟩, 50) := ⟨⟨by decide +kernel, by decide +kernel⟩, List.mem_of_getElem? (i := 1128) (by decide +kernel), List.mem_of_getElem? (i := 1684) (by decide +kernel), List.mem_of_getElem? (i := 1685) (by decide +kernel)⟩
theorem lw_p123 : lw_okq (⟨"NestedClipsModel", "plays", "(I)Z"⟩, 50) := ⟨⟨by decide +kernel, by decide +kernel⟩, List.mem_of_getElem? (i := 1128) (by decide +kernel), List.mem_of_getElem? (i := 1688) (by decide +kernel), List.mem_of_getElem? (i := 1689) (by decide +kernel)⟩
theorem lw_p124 : lw_okq (⟨"NestedClipsModel", "laysTimes", "(I)V"⟩, 50) := ⟨⟨by decide +kernel, by decide +kernel⟩, List.mem_of_getElem? (i := 1128) (by decide +kernel), List.mem_of_getElem? (i := 1704) (by decide +kernel), List.mem_of_getElem? (i := 1705) (by decide +kernel)⟩
theorem lw_p125 : lw_okq (⟨"NestedClipsModel", "goesPiece", "(I)Z"⟩, 50) := ⟨⟨by decide +kernel, by decide +kernel⟩, List.mem_of_getElem? (i := 1128) (by decide +kernel), List.mem_of_getElem? (i := 1708) (by decide +kernel), List.mem_of_getElem? (i := 1709) (by decide +kernel)⟩
theorem lw_p126 : lw_okq (⟨"NestedClipsModel", "asksPiece", "(ZII)Z"⟩, 50) := ⟨⟨by decide +kernel, by decide +kernel⟩, List.mem_of_getElem? (i := 1128) (by decide +kernel), List.mem_of_getElem? (i := 1716) (by decide +kernel), List.mem_of_getElem? (i := 1717) (by decide +kernel)⟩
theorem lw_p127 : lw_okq (⟨"NestedClipsModel", "stepOf", "()J"⟩, 50) := ⟨⟨by decide +kernel, by decide +kernel⟩, List.mem_of_getElem? (i := 1128) (by decide +kernel), List.mem_of_getElem? (i := 1720) (by decide +kernel), List.mem_of_getElem? (i := 1721) (by decide +kernel)⟩
def lw_privs_8 : List (MethodName × Nat) := [(⟨"NestedClipsModel", "isChange", "(I)Z"⟩, 50), (⟨"NestedClipsModel", "asks", "(II)Z"⟩, 50), (⟨"NestedClipsModel", "stateOf", "(I)I"⟩, 50), (⟨"NestedClipsModel", "localOf", "(I)J"⟩, 50), (⟨"NestedClipsModel", "setOf", "(I)I"⟩, 50), (⟨"NestedClipsModel", "laysStanding", "()V"⟩, 50), (⟨"NestedClipsModel", "standsAhead", "(II)Z"⟩, 50), (⟨"NestedClipsModel", "laysShares", "(I)V"⟩, 50), (⟨"NestedClipsModel", "asksLight", "(I)Z"⟩, 50), (⟨"NestedClipsModel", "asksLeaf", "(I)Z"⟩, 50), (⟨"NestedClipsModel", "laysLights", "()V"⟩, 50), (⟨"NestedClipsModel", "plays", "(I)Z"⟩, 50), (⟨"NestedClipsModel", "laysTimes", "(I)V"⟩, 50), (⟨"NestedClipsModel", "goesPiece", "(I)Z"⟩, 50), (⟨"NestedClipsModel", "asksPiece", "(ZII)Z"⟩, 50), (⟨"NestedClipsModel", "stepOf", "()J"⟩, 50)]
theorem lw_r8 : ∀ q ∈ lw_privs_8, lw_okq q := List.forall_mem_cons.mpr ⟨lw_p112, List.forall_mem_cons.mpr ⟨lw_p113, List.forall_mem_cons.mpr ⟨lw_p114, List.forall_mem_cons.mpr ⟨lw_p115, List.forall_mem_cons.mpr ⟨lw_p116, List.forall_mem_cons.mpr ⟨lw_p117, List.forall_mem_cons.mpr ⟨lw_p118, List.forall_mem_cons.mpr ⟨lw_p119, List.forall_mem_cons.mpr ⟨lw_p120, List.forall_mem_cons.mpr ⟨lw_p121, List.forall_mem_cons.mpr ⟨lw_p122, List.forall_mem_cons.mpr ⟨lw_p123, List.forall_mem_cons.mpr ⟨lw_p124, List.forall_mem_cons.mpr ⟨lw_p125, List.forall_mem_cons.mpr ⟨lw_p126, List.forall_mem_cons.mpr ⟨lw_p127, fun _ h => absurd h List.not_mem_nil⟩⟩⟩⟩⟩⟩⟩⟩⟩⟩⟩⟩⟩⟩⟩⟩
theorem lw_p128 : lw_okq (⟨"NestedClipsModel", "isFirst", "(I)Z"⟩, 50) := ⟨⟨by decide +kernel, by decide +kernel⟩, List.mem_of_getElem? (i := 1128) (by decide +kernel), List.mem_of_getElem? (i := 1732) (by decide +kernel), List.mem_of_getElem? (i := 1733) (by decide +kernel)⟩
theorem lw_p129 : lw_okq (⟨"NestedClipsModel", "unlike", "(II)I"⟩, 50) := ⟨⟨by decide +kernel, by decide +kernel⟩, List.mem_of_getElem? (i := 1128) (by decide +kernel), List.mem_of_getElem? (i := 1740) (by decide +kernel), List.mem_of_getElem? (i := 1741) (by decide +kernel)⟩
theorem lw_p130 : lw_okq (⟨"NestedClipsModel", "leavesPlaying", "()I"⟩, 50) := ⟨⟨by decide +kernel, by decide +kernel⟩, List.mem_of_getElem? (i := 1128) (by decide +kernel), List.mem_of_getElem? (i := 1768) (by decide +kernel), List.mem_of_getElem? (i := 1769) (by decide +kernel)⟩
theorem lw_p131 : lw_okq (⟨"NestedClipsModel", "steps", "()V"⟩, 50) := ⟨⟨by decide +kernel, by decide +kernel⟩, List.mem_of_getElem? (i := 1128) (by decide +kernel), List.mem_of_getElem? (i := 1792) (by decide +kernel), List.mem_of_getElem? (i := 1793) (by decide +kernel)⟩
theorem lw_p132 : lw_okq (⟨"NestedClipsModel", "tells", "(II)V"⟩, 50) := ⟨⟨by decide +kernel, by decide +kernel⟩, List.mem_of_getElem? (i := 1128) (by decide +kernel), List.mem_of_getElem? (i := 1796) (by decide +kernel), List.mem_of_getElem? (i := 1797) (by decide +kernel)⟩
def lw_privs_9 : List (MethodName × Nat) := [(⟨"NestedClipsModel", "isFirst", "(I)Z"⟩, 50), (⟨"NestedClipsModel", "unlike", "(II)I"⟩, 50), (⟨"NestedClipsModel", "leavesPlaying", "()I"⟩, 50), (⟨"NestedClipsModel", "steps", "()V"⟩, 50), (⟨"NestedClipsModel", "tells", "(II)V"⟩, 50)]
theorem lw_r9 : ∀ q ∈ lw_privs_9, lw_okq q := List.forall_mem_cons.mpr ⟨lw_p128, List.forall_mem_cons.mpr ⟨lw_p129, List.forall_mem_cons.mpr ⟨lw_p130, List.forall_mem_cons.mpr ⟨lw_p131, List.forall_mem_cons.mpr ⟨lw_p132, fun _ h => absurd h List.not_mem_nil⟩⟩⟩⟩⟩
def lw_privs : List (MethodName × Nat) := lw_privs_1 ++ (lw_privs_2 ++ (lw_privs_3 ++ (lw_privs_4 ++ (lw_privs_5 ++ (lw_privs_6 ++ (lw_privs_7 ++ (lw_privs_8 ++ (lw_privs_9))))))))
def lw_tbl : List Cond := k2_sels lw_privs ++ tables_1
theorem lw_privs_ok : ∀ q ∈ lw_privs, lw_okq q := by
  show ∀ q ∈ lw_privs_1 ++ (lw_privs_2 ++ (lw_privs_3 ++ (lw_privs_4 ++ (lw_privs_5 ++ (lw_privs_6 ++ (lw_privs_7 ++ (lw_privs_8 ++ (lw_privs_9)))))))), lw_okq q
  exact List.forall_mem_append.mpr ⟨lw_r1, List.forall_mem_append.mpr ⟨lw_r2, List.forall_mem_append.mpr ⟨lw_r3, List.forall_mem_append.mpr ⟨lw_r4, List.forall_mem_append.mpr ⟨lw_r5, List.forall_mem_append.mpr ⟨lw_r6, List.forall_mem_append.mpr ⟨lw_r7, List.forall_mem_append.mpr ⟨lw_r8, lw_r9⟩⟩⟩⟩⟩⟩⟩⟩
end
section
def zT : List Cond := lw_tbl.filter goodWord
theorem zT_at (i : Nat) {w : Cond} (h : zT[i]? = some w) : w ∈ zT := List.mem_of_getElem? h
theorem zT_places {ws : List Cond} (ps : List Nat) (h : ws = ps.filterMap (fun i => zT[i]?)) : ∀ w ∈ ws, w ∈ zT := by
  intro w hw
  rw [h] at hw
  obtain ⟨i, -, hi⟩ := List.mem_filterMap.mp hw
  exact List.mem_of_getElem? hi
def R_La : String := "NestedClips$Layout"
def F_La : u_T := fun k => match k with
  | 0 => ("NestedClips$Layout", "simple", "[I", true)
  | 1 => ("NestedClips$Layout", "active", "[I", true)
  | 2 => ("NestedClips$Layout", "begin", "[I", true)
  | 3 => ("NestedClips$Layout", "base", "[I", true)
  | 4 => ("NestedClips$Layout", "open", "[Z", true)
  | _ => ("NestedClips$Layout", "lasts", "I", false)
def t_La : Nat → FieldType := fun k => match k with
  | 0 => .array .int
  | 1 => .array .int
  | 2 => .array .int
  | 3 => .array .int
  | 4 => .array .boolean
  | _ => .int
theorem n_La : ∀ a, a < 6 → ∀ b, b < 6 → a ≠ b → (F_La a).2.1 ≠ (F_La b).2.1 := by decide +kernel
theorem t_La_ok : ∀ k, k < 6 → parseFieldDescriptor (F_La k).2.2.1 = some (t_La k) := by decide +kernel
theorem i_La : ∀ w ∈ u_ws R_La F_La 6, w ∈ zT := zT_places [250, 252, 254, 256, 258, 260] (by decide +kernel)
def R_Mo : String := "NestedClips$Moment"
def F_Mo : u_T := fun k => match k with
  | 0 => ("NestedClips$Moment", "time", "I", false)
  | 1 => ("NestedClips$Moment", "dark", "I", false)
  | 2 => ("NestedClips$Moment", "state", "[I", true)
  | 3 => ("NestedClips$Moment", "local", "[I", true)
  | 4 => ("NestedClips$Moment", "pass", "[I", true)
  | 5 => ("NestedClips$Moment", "begin", "[I", true)
  | 6 => ("NestedClips$Moment", "sinceBegin", "[I", true)
  | 7 => ("NestedClips$Moment", "strength", "[I", true)
  | _ => ("NestedClips$Moment", "share", "[I", true)
def t_Mo : Nat → FieldType := fun k => match k with
  | 0 => .int
  | 1 => .int
  | 2 => .array .int
  | 3 => .array .int
  | 4 => .array .int
  | 5 => .array .int
  | 6 => .array .int
  | 7 => .array .int
  | _ => .array .int
theorem n_Mo : ∀ a, a < 9 → ∀ b, b < 9 → a ≠ b → (F_Mo a).2.1 ≠ (F_Mo b).2.1 := by decide +kernel
theorem t_Mo_ok : ∀ k, k < 9 → parseFieldDescriptor (F_Mo k).2.2.1 = some (t_Mo k) := by decide +kernel
theorem i_Mo : ∀ w ∈ u_ws R_Mo F_Mo 9, w ∈ zT := zT_places [304, 306, 308, 310, 312, 314, 316, 318, 320] (by decide +kernel)
def R_Pa : String := "NestedClips$Past"
def F_Pa : u_T := fun k => match k with
  | 0 => ("NestedClips$Past", "kept", "[LNestedClips$Show;", true)
  | 1 => ("NestedClips$Past", "next", "I", false)
  | _ => ("NestedClips$Past", "many", "I", false)
def t_Pa : Nat → FieldType := fun k => match k with
  | 0 => .array (.object "NestedClips$Show")
  | 1 => .int
  | _ => .int
theorem n_Pa : ∀ a, a < 3 → ∀ b, b < 3 → a ≠ b → (F_Pa a).2.1 ≠ (F_Pa b).2.1 := by decide +kernel
theorem t_Pa_ok : ∀ k, k < 3 → parseFieldDescriptor (F_Pa k).2.2.1 = some (t_Pa k) := by decide +kernel
theorem i_Pa : ∀ w ∈ u_ws R_Pa F_Pa 3, w ∈ zT := zT_places [388, 390, 392] (by decide +kernel)
def R_Rd : String := "NestedClips$Reader"
def F_Rd : u_T := fun k => match k with
  | 0 => ("NestedClips$Reader", "tape", "LNestedClips$Tape;", true)
  | 1 => ("NestedClips$Reader", "draft", "LNestedClips$Show;", true)
  | 2 => ("NestedClips$Reader", "layout", "LNestedClips$Layout;", true)
  | 3 => ("NestedClips$Reader", "length", "I", false)
  | 4 => ("NestedClips$Reader", "type", "I", false)
  | 5 => ("NestedClips$Reader", "from", "I", false)
  | 6 => ("NestedClips$Reader", "behind", "I", false)
  | 7 => ("NestedClips$Reader", "said", "J", false)
  | 8 => ("NestedClips$Reader", "names", "[J", true)
  | 9 => ("NestedClips$Reader", "startNames", "[J", true)
  | 10 => ("NestedClips$Reader", "open", "I", false)
  | 11 => ("NestedClips$Reader", "marked", "I", false)
  | 12 => ("NestedClips$Reader", "told", "I", false)
  | 13 => ("NestedClips$Reader", "fault", "I", false)
  | _ => ("NestedClips$Reader", "place", "I", false)
def t_Rd : Nat → FieldType := fun k => match k with
  | 0 => .object "NestedClips$Tape"
  | 1 => .object "NestedClips$Show"
  | 2 => .object "NestedClips$Layout"
  | 3 => .int
  | 4 => .int
  | 5 => .int
  | 6 => .int
  | 7 => .long
  | 8 => .array .long
  | 9 => .array .long
  | 10 => .int
  | 11 => .int
  | 12 => .int
  | 13 => .int
  | _ => .int
theorem n_Rd : ∀ a, a < 15 → ∀ b, b < 15 → a ≠ b → (F_Rd a).2.1 ≠ (F_Rd b).2.1 := by decide +kernel
theorem t_Rd_ok : ∀ k, k < 15 → parseFieldDescriptor (F_Rd k).2.2.1 = some (t_Rd k) := by decide +kernel
theorem i_Rd : ∀ w ∈ u_ws R_Rd F_Rd 15, w ∈ zT := zT_places [432, 434, 436, 438, 440, 442, 444, 446, 448, 450, 452, 454, 456, 458, 460] (by decide +kernel)
def R_Re : String := "NestedClips$Reel"
def F_Re : u_T := fun k => match k with
  | 0 => ("NestedClips$Reel", "time", "I", false)
  | 1 => ("NestedClips$Reel", "events", "I", false)
  | 2 => ("NestedClips$Reel", "kind", "[I", true)
  | 3 => ("NestedClips$Reel", "when", "[I", true)
  | 4 => ("NestedClips$Reel", "clip", "[I", true)
  | 5 => ("NestedClips$Reel", "local", "[I", true)
  | 6 => ("NestedClips$Reel", "playedAhead", "[Z", true)
  | _ => ("NestedClips$Reel", "passAhead", "[I", true)
def t_Re : Nat → FieldType := fun k => match k with
  | 0 => .int
  | 1 => .int
  | 2 => .array .int
  | 3 => .array .int
  | 4 => .array .int
  | 5 => .array .int
  | 6 => .array .boolean
  | _ => .array .int
theorem n_Re : ∀ a, a < 8 → ∀ b, b < 8 → a ≠ b → (F_Re a).2.1 ≠ (F_Re b).2.1 := by decide +kernel
theorem t_Re_ok : ∀ k, k < 8 → parseFieldDescriptor (F_Re k).2.2.1 = some (t_Re k) := by decide +kernel
theorem i_Re : ∀ w ∈ u_ws R_Re F_Re 8, w ∈ zT := zT_places [483, 485, 487, 489, 491, 493, 495, 497] (by decide +kernel)
def R_Sh : String := "NestedClips$Show"
def F_Sh : u_T := fun k => match k with
  | 0 => ("NestedClips$Show", "clips", "I", false)
  | 1 => ("NestedClips$Show", "kind", "[I", true)
  | 2 => ("NestedClips$Show", "around", "[I", true)
  | 3 => ("NestedClips$Show", "place", "[I", true)
  | 4 => ("NestedClips$Show", "how", "[I", true)
  | 5 => ("NestedClips$Show", "other", "[I", true)
  | 6 => ("NestedClips$Show", "much", "[I", true)
  | 7 => ("NestedClips$Show", "marks", "[I", true)
  | 8 => ("NestedClips$Show", "presses", "I", false)
  | 9 => ("NestedClips$Show", "pressKey", "[I", true)
  | _ => ("NestedClips$Show", "pressTime", "[I", true)
def t_Sh : Nat → FieldType := fun k => match k with
  | 0 => .int
  | 1 => .array .int
  | 2 => .array .int
  | 3 => .array .int
  | 4 => .array .int
  | 5 => .array .int
  | 6 => .array .int
  | 7 => .array .int
  | 8 => .int
  | 9 => .array .int
  | _ => .array .int
theorem n_Sh : ∀ a, a < 11 → ∀ b, b < 11 → a ≠ b → (F_Sh a).2.1 ≠ (F_Sh b).2.1 := by decide +kernel
theorem t_Sh_ok : ∀ k, k < 11 → parseFieldDescriptor (F_Sh k).2.2.1 = some (t_Sh k) := by decide +kernel
theorem i_Sh : ∀ w ∈ u_ws R_Sh F_Sh 11, w ∈ zT := zT_places [203, 205, 207, 209, 211, 213, 215, 217, 219, 221, 223] (by decide +kernel)
def R_Sg : String := "NestedClips$Stage"
def F_Sg : u_T := fun k => match k with
  | 0 => ("NestedClips$Stage", "show", "LNestedClips$Show;", true)
  | 1 => ("NestedClips$Stage", "layout", "LNestedClips$Layout;", true)
  | 2 => ("NestedClips$Stage", "now", "LNestedClips$Moment;", true)
  | 3 => ("NestedClips$Stage", "atPress", "[LNestedClips$Moment;", true)
  | 4 => ("NestedClips$Stage", "inTime", "[I", true)
  | 5 => ("NestedClips$Stage", "stand", "[I", true)
  | 6 => ("NestedClips$Stage", "standing", "I", false)
  | _ => ("NestedClips$Stage", "settled", "I", false)
def t_Sg : Nat → FieldType := fun k => match k with
  | 0 => .object "NestedClips$Show"
  | 1 => .object "NestedClips$Layout"
  | 2 => .object "NestedClips$Moment"
  | 3 => .array (.object "NestedClips$Moment")
  | 4 => .array .int
  | 5 => .array .int
  | 6 => .int
  | _ => .int
theorem n_Sg : ∀ a, a < 8 → ∀ b, b < 8 → a ≠ b → (F_Sg a).2.1 ≠ (F_Sg b).2.1 := by decide +kernel
theorem t_Sg_ok : ∀ k, k < 8 → parseFieldDescriptor (F_Sg k).2.2.1 = some (t_Sg k) := by decide +kernel
theorem i_Sg : ∀ w ∈ u_ws R_Sg F_Sg 8, w ∈ zT := zT_places [331, 333, 335, 337, 339, 341, 343, 345] (by decide +kernel)
def R_Sr : String := "NestedClips$Stretch"
def F_Sr : u_T := fun k => match k with
  | 0 => ("NestedClips$Stretch", "stage", "LNestedClips$Stage;", true)
  | 1 => ("NestedClips$Stretch", "row", "[I", true)
  | 2 => ("NestedClips$Stretch", "first", "I", false)
  | 3 => ("NestedClips$Stretch", "last", "I", false)
  | 4 => ("NestedClips$Stretch", "step", "I", false)
  | _ => ("NestedClips$Stretch", "local", "I", false)
def t_Sr : Nat → FieldType := fun k => match k with
  | 0 => .object "NestedClips$Stage"
  | 1 => .array .int
  | 2 => .int
  | 3 => .int
  | 4 => .int
  | _ => .int
theorem n_Sr : ∀ a, a < 6 → ∀ b, b < 6 → a ≠ b → (F_Sr a).2.1 ≠ (F_Sr b).2.1 := by decide +kernel
theorem t_Sr_ok : ∀ k, k < 6 → parseFieldDescriptor (F_Sr k).2.2.1 = some (t_Sr k) := by decide +kernel
theorem i_Sr : ∀ w ∈ u_ws R_Sr F_Sr 6, w ∈ zT := zT_places [364, 366, 368, 370, 372, 374] (by decide +kernel)
def R_Ta : String := "NestedClips$Tape"
def F_Ta : u_T := fun k => match k with
  | 0 => ("NestedClips$Tape", "bytes", "[I", true)
  | _ => ("NestedClips$Tape", "length", "I", false)
def t_Ta : Nat → FieldType := fun k => match k with
  | 0 => .array .int
  | _ => .int
theorem n_Ta : ∀ a, a < 2 → ∀ b, b < 2 → a ≠ b → (F_Ta a).2.1 ≠ (F_Ta b).2.1 := by decide +kernel
theorem t_Ta_ok : ∀ k, k < 2 → parseFieldDescriptor (F_Ta k).2.2.1 = some (t_Ta k) := by decide +kernel
theorem i_Ta : ∀ w ∈ u_ws R_Ta F_Ta 2, w ∈ zT := zT_places [404, 406] (by decide +kernel)
def R_Nc : String := "NestedClips"
def F_Nc : u_T := fun k => match k with
  | 0 => ("NestedClips", "show", "LNestedClips$Show;", true)
  | 1 => ("NestedClips", "draft", "LNestedClips$Show;", true)
  | 2 => ("NestedClips", "layout", "LNestedClips$Layout;", true)
  | 3 => ("NestedClips", "trial", "LNestedClips$Layout;", true)
  | 4 => ("NestedClips", "stage", "LNestedClips$Stage;", true)
  | 5 => ("NestedClips", "stretch", "LNestedClips$Stretch;", true)
  | 6 => ("NestedClips", "past", "LNestedClips$Past;", true)
  | 7 => ("NestedClips", "tape", "LNestedClips$Tape;", true)
  | 8 => ("NestedClips", "reader", "LNestedClips$Reader;", true)
  | 9 => ("NestedClips", "reel", "LNestedClips$Reel;", true)
  | 10 => ("NestedClips", "status", "I", false)
  | 11 => ("NestedClips", "fault", "I", false)
  | _ => ("NestedClips", "faultPlace", "I", false)
def t_Nc : Nat → FieldType := fun k => match k with
  | 0 => .object "NestedClips$Show"
  | 1 => .object "NestedClips$Show"
  | 2 => .object "NestedClips$Layout"
  | 3 => .object "NestedClips$Layout"
  | 4 => .object "NestedClips$Stage"
  | 5 => .object "NestedClips$Stretch"
  | 6 => .object "NestedClips$Past"
  | 7 => .object "NestedClips$Tape"
  | 8 => .object "NestedClips$Reader"
  | 9 => .object "NestedClips$Reel"
  | 10 => .int
  | 11 => .int
  | _ => .int
theorem n_Nc : ∀ a, a < 13 → ∀ b, b < 13 → a ≠ b → (F_Nc a).2.1 ≠ (F_Nc b).2.1 := by decide +kernel
theorem t_Nc_ok : ∀ k, k < 13 → parseFieldDescriptor (F_Nc k).2.2.1 = some (t_Nc k) := by decide +kernel
theorem i_Nc : ∀ w ∈ u_ws R_Nc F_Nc 13, w ∈ zT := zT_places [589, 591, 593, 595, 597, 599, 601, 603, 605, 607, 609, 611, 613] (by decide +kernel)
def R_Md : String := "NestedClipsModel"
def F_Md : u_T := fun k => match k with
  | 0 => ("NestedClipsModel", "c", "[I", true)
  | 1 => ("NestedClipsModel", "keptMany", "I", false)
  | 2 => ("NestedClipsModel", "status", "I", false)
  | 3 => ("NestedClipsModel", "thrown", "I", false)
  | 4 => ("NestedClipsModel", "headAt", "I", false)
  | 5 => ("NestedClipsModel", "simples", "[J", true)
  | 6 => ("NestedClipsModel", "actives", "[J", true)
  | 7 => ("NestedClipsModel", "begins", "[J", true)
  | 8 => ("NestedClipsModel", "opens", "[Z", true)
  | 9 => ("NestedClipsModel", "isKnown", "[Z", true)
  | 10 => ("NestedClipsModel", "tape", "[B", true)
  | 11 => ("NestedClipsModel", "taped", "I", false)
  | 12 => ("NestedClipsModel", "faultKind", "I", false)
  | 13 => ("NestedClipsModel", "faultAt", "I", false)
  | 14 => ("NestedClipsModel", "wrong", "I", false)
  | 15 => ("NestedClipsModel", "wrongAt", "I", false)
  | 16 => ("NestedClipsModel", "at", "I", false)
  | 17 => ("NestedClipsModel", "next", "I", false)
  | 18 => ("NestedClipsModel", "sort", "I", false)
  | 19 => ("NestedClipsModel", "number", "I", false)
  | 20 => ("NestedClipsModel", "end", "I", false)
  | 21 => ("NestedClipsModel", "word", "J", false)
  | 22 => ("NestedClipsModel", "words", "[J", true)
  | 23 => ("NestedClipsModel", "names", "[J", true)
  | 24 => ("NestedClipsModel", "wanted", "[J", true)
  | 25 => ("NestedClipsModel", "told", "[I", true)
  | 26 => ("NestedClipsModel", "newNumber", "[I", true)
  | 27 => ("NestedClipsModel", "states", "[I", true)
  | 28 => ("NestedClipsModel", "locals", "[J", true)
  | 29 => ("NestedClipsModel", "passes", "[J", true)
  | 30 => ("NestedClipsModel", "knownAt", "[J", true)
  | 31 => ("NestedClipsModel", "strengths", "[I", true)
  | 32 => ("NestedClipsModel", "inOrder", "[I", true)
  | 33 => ("NestedClipsModel", "standing", "[I", true)
  | 34 => ("NestedClipsModel", "shares", "[I", true)
  | 35 => ("NestedClipsModel", "standMany", "I", false)
  | 36 => ("NestedClipsModel", "darkness", "I", false)
  | 37 => ("NestedClipsModel", "seenAt", "[I", true)
  | 38 => ("NestedClipsModel", "brightAt", "[I", true)
  | 39 => ("NestedClipsModel", "brightest", "[I", true)
  | 40 => ("NestedClipsModel", "playedAt", "[I", true)
  | 41 => ("NestedClipsModel", "playsAt", "[Z", true)
  | 42 => ("NestedClipsModel", "frameAt", "[J", true)
  | 43 => ("NestedClipsModel", "pieceFrom", "I", false)
  | 44 => ("NestedClipsModel", "pieceTo", "I", false)
  | 45 => ("NestedClipsModel", "eventKind", "[I", true)
  | 46 => ("NestedClipsModel", "eventTime", "[I", true)
  | 47 => ("NestedClipsModel", "eventClip", "[I", true)
  | 48 => ("NestedClipsModel", "eventLocal", "[I", true)
  | _ => ("NestedClipsModel", "eventMany", "I", false)
def t_Md : Nat → FieldType := fun k => match k with
  | 0 => .array .int
  | 1 => .int
  | 2 => .int
  | 3 => .int
  | 4 => .int
  | 5 => .array .long
  | 6 => .array .long
  | 7 => .array .long
  | 8 => .array .boolean
  | 9 => .array .boolean
  | 10 => .array .byte
  | 11 => .int
  | 12 => .int
  | 13 => .int
  | 14 => .int
  | 15 => .int
  | 16 => .int
  | 17 => .int
  | 18 => .int
  | 19 => .int
  | 20 => .int
  | 21 => .long
  | 22 => .array .long
  | 23 => .array .long
  | 24 => .array .long
  | 25 => .array .int
  | 26 => .array .int
  | 27 => .array .int
  | 28 => .array .long
  | 29 => .array .long
  | 30 => .array .long
  | 31 => .array .int
  | 32 => .array .int
  | 33 => .array .int
  | 34 => .array .int
  | 35 => .int
  | 36 => .int
  | 37 => .array .int
  | 38 => .array .int
  | 39 => .array .int
  | 40 => .array .int
  | 41 => .array .boolean
  | 42 => .array .long
  | 43 => .int
  | 44 => .int
  | 45 => .array .int
  | 46 => .array .int
  | 47 => .array .int
  | 48 => .array .int
  | _ => .int
theorem n_Md : ∀ a, a < 50 → ∀ b, b < 50 → a ≠ b → (F_Md a).2.1 ≠ (F_Md b).2.1 := by decide +kernel
theorem t_Md_ok : ∀ k, k < 50 → parseFieldDescriptor (F_Md k).2.2.1 = some (t_Md k) := by decide +kernel
theorem i_Md : ∀ w ∈ u_ws R_Md F_Md 50, w ∈ zT := zT_places [1253, 1255, 1257, 1259, 1261, 1263, 1265, 1267, 1269, 1271, 1273, 1275, 1277, 1279, 1281, 1283, 1285, 1287, 1289, 1291, 1293, 1295, 1297, 1299, 1301, 1303, 1305, 1307, 1309, 1311, 1313, 1315, 1317, 1319, 1321, 1323, 1325, 1327, 1329, 1331, 1333, 1335, 1337, 1339, 1341, 1343, 1345, 1347, 1349, 1351] (by decide +kernel)
def zcl : List vw_C := [(R_La, F_La, 6), (R_Mo, F_Mo, 9), (R_Pa, F_Pa, 3), (R_Rd, F_Rd, 15), (R_Re, F_Re, 8), (R_Sh, F_Sh, 11), (R_Sg, F_Sg, 8), (R_Sr, F_Sr, 6), (R_Ta, F_Ta, 2), (R_Nc, F_Nc, 13), (R_Md, F_Md, 50)]
def y_Nc_init : MethodName := ⟨"NestedClips", "<init>", "()V"⟩
abbrev m_Nc_init : ByteArray × String × Nat × Option FieldType × String := (prog_1_method_1_code, "NestedClips", 1, none, "<init>")
def y_Ob_init : MethodName := ⟨"java/lang/Object", "<init>", "()V"⟩
abbrev m_Ob_init : ByteArray × String × Nat × Option FieldType × String := (object_method_1_code, "java/lang/Object", 1, none, "<init>")
def y_Sh_init : MethodName := ⟨"NestedClips$Show", "<init>", "()V"⟩
abbrev m_Sh_init : ByteArray × String × Nat × Option FieldType × String := (prog_7_method_1_code, "NestedClips$Show", 1, none, "<init>")
def y_La_init : MethodName := ⟨"NestedClips$Layout", "<init>", "()V"⟩
abbrev m_La_init : ByteArray × String × Nat × Option FieldType × String := (prog_2_method_1_code, "NestedClips$Layout", 1, none, "<init>")
def y_Sg_init : MethodName := ⟨"NestedClips$Stage", "<init>", "(LNestedClips$Show;LNestedClips$Layout;)V"⟩
abbrev m_Sg_init : ByteArray × String × Nat × Option FieldType × String := (prog_8_method_1_code, "NestedClips$Stage", 4, none, "<init>")
def y_Mo_init : MethodName := ⟨"NestedClips$Moment", "<init>", "()V"⟩
abbrev m_Mo_init : ByteArray × String × Nat × Option FieldType × String := (prog_3_method_1_code, "NestedClips$Moment", 1, none, "<init>")
def y_Sr_init : MethodName := ⟨"NestedClips$Stretch", "<init>", "(LNestedClips$Stage;)V"⟩
abbrev m_Sr_init : ByteArray × String × Nat × Option FieldType × String := (prog_9_method_1_code, "NestedClips$Stretch", 2, none, "<init>")
def y_Pa_init : MethodName := ⟨"NestedClips$Past", "<init>", "()V"⟩
abbrev m_Pa_init : ByteArray × String × Nat × Option FieldType × String := (prog_4_method_1_code, "NestedClips$Past", 2, none, "<init>")
def y_Ta_init : MethodName := ⟨"NestedClips$Tape", "<init>", "()V"⟩
abbrev m_Ta_init : ByteArray × String × Nat × Option FieldType × String := (prog_10_method_1_code, "NestedClips$Tape", 1, none, "<init>")
def y_Rd_init : MethodName := ⟨"NestedClips$Reader", "<init>", "(LNestedClips$Tape;LNestedClips$Show;LNestedClips$Layout;)V"⟩
abbrev m_Rd_init : ByteArray × String × Nat × Option FieldType × String := (prog_5_method_1_code, "NestedClips$Reader", 4, none, "<init>")
def y_Re_init : MethodName := ⟨"NestedClips$Reel", "<init>", "()V"⟩
abbrev m_Re_init : ByteArray × String × Nat × Option FieldType × String := (prog_6_method_1_code, "NestedClips$Reel", 1, none, "<init>")
def y_Sg_prepare : MethodName := ⟨"NestedClips$Stage", "prepare", "()V"⟩
abbrev m_Sg_prepare : ByteArray × String × Nat × Option FieldType × String := (prog_8_method_2_code, "NestedClips$Stage", 3, none, "prepare")
def y_La_measure : MethodName := ⟨"NestedClips$Layout", "measure", "(LNestedClips$Show;)V"⟩
abbrev m_La_measure : ByteArray × String × Nat × Option FieldType × String := (prog_2_method_2_code, "NestedClips$Layout", 5, none, "measure")
def y_La_layOneBehindTheOther : MethodName := ⟨"NestedClips$Layout", "layOneBehindTheOther", "(LNestedClips$Show;I)I"⟩
abbrev m_La_layOneBehindTheOther : ByteArray × String × Nat × Option FieldType × String := (prog_2_method_5_code, "NestedClips$Layout", 6, some (.int), "layOneBehindTheOther")
def y_Sh_childAt : MethodName := ⟨"NestedClips$Show", "childAt", "(II)I"⟩
abbrev m_Sh_childAt : ByteArray × String × Nat × Option FieldType × String := (prog_7_method_9_code, "NestedClips$Show", 4, some (.int), "childAt")
def y_La_layAtOnce : MethodName := ⟨"NestedClips$Layout", "layAtOnce", "(LNestedClips$Show;I)I"⟩
abbrev m_La_layAtOnce : ByteArray × String × Nat × Option FieldType × String := (prog_2_method_6_code, "NestedClips$Layout", 5, some (.int), "layAtOnce")
def y_La_layInPar : MethodName := ⟨"NestedClips$Layout", "layInPar", "(LNestedClips$Show;I)V"⟩
abbrev m_La_layInPar : ByteArray × String × Nat × Option FieldType × String := (prog_2_method_7_code, "NestedClips$Layout", 7, none, "layInPar")
def y_Sh_startsByAnother : MethodName := ⟨"NestedClips$Show", "startsByAnother", "(I)Z"⟩
abbrev m_Sh_startsByAnother : ByteArray × String × Nat × Option FieldType × String := (prog_7_method_12_code, "NestedClips$Show", 2, some (.boolean), "startsByAnother")
def y_Ma_max : MethodName := ⟨"java/lang/Math", "max", "(II)I"⟩
abbrev m_Ma_max : ByteArray × String × Nat × Option FieldType × String := (prog_14_method_65_code, "java/lang/Math", 2, some (.int), "max")
def y_Sh_markOf : MethodName := ⟨"NestedClips$Show", "markOf", "(II)I"⟩
abbrev m_Sh_markOf : ByteArray × String × Nat × Option FieldType × String := (prog_7_method_5_code, "NestedClips$Show", 3, some (.int), "markOf")
def y_La_activeOf : MethodName := ⟨"NestedClips$Layout", "activeOf", "(LNestedClips$Show;I)I"⟩
abbrev m_La_activeOf : ByteArray × String × Nat × Option FieldType × String := (prog_2_method_4_code, "NestedClips$Layout", 6, some (.int), "activeOf")
def y_Sg_standLeaves : MethodName := ⟨"NestedClips$Stage", "standLeaves", "()V"⟩
abbrev m_Sg_standLeaves : ByteArray × String × Nat × Option FieldType × String := (prog_8_method_6_code, "NestedClips$Stage", 3, none, "standLeaves")
def y_Sg_sortPresses : MethodName := ⟨"NestedClips$Stage", "sortPresses", "()V"⟩
abbrev m_Sg_sortPresses : ByteArray × String × Nat × Option FieldType × String := (prog_8_method_7_code, "NestedClips$Stage", 3, none, "sortPresses")
def y_Sg_fill : MethodName := ⟨"NestedClips$Stage", "fill", "(LNestedClips$Moment;I)V"⟩
abbrev m_Sg_fill : ByteArray × String × Nat × Option FieldType × String := (prog_8_method_8_code, "NestedClips$Stage", 4, none, "fill")
def y_Mo_clear : MethodName := ⟨"NestedClips$Moment", "clear", "(I)V"⟩
abbrev m_Mo_clear : ByteArray × String × Nat × Option FieldType × String := (prog_3_method_2_code, "NestedClips$Moment", 2, none, "clear")
def y_Sg_fillClip : MethodName := ⟨"NestedClips$Stage", "fillClip", "(LNestedClips$Moment;I)V"⟩
abbrev m_Sg_fillClip : ByteArray × String × Nat × Option FieldType × String := (prog_8_method_9_code, "NestedClips$Stage", 6, none, "fillClip")
def y_Mo_runs : MethodName := ⟨"NestedClips$Moment", "runs", "(I)Z"⟩
abbrev m_Mo_runs : ByteArray × String × Nat × Option FieldType × String := (prog_3_method_3_code, "NestedClips$Moment", 2, some (.boolean), "runs")
def y_Sg_begunByPress : MethodName := ⟨"NestedClips$Stage", "begunByPress", "(LNestedClips$Moment;I)I"⟩
abbrev m_Sg_begunByPress : ByteArray × String × Nat × Option FieldType × String := (prog_8_method_13_code, "NestedClips$Stage", 9, some (.int), "begunByPress")
def y_Sg_samePasses : MethodName := ⟨"NestedClips$Stage", "samePasses", "(LNestedClips$Moment;LNestedClips$Moment;I)Z"⟩
abbrev m_Sg_samePasses : ByteArray × String × Nat × Option FieldType × String := (prog_8_method_14_code, "NestedClips$Stage", 6, some (.boolean), "samePasses")
def y_Sg_fillRunning : MethodName := ⟨"NestedClips$Stage", "fillRunning", "(LNestedClips$Moment;II)V"⟩
abbrev m_Sg_fillRunning : ByteArray × String × Nat × Option FieldType × String := (prog_8_method_10_code, "NestedClips$Stage", 8, none, "fillRunning")
def y_Sg_strengthOf : MethodName := ⟨"NestedClips$Stage", "strengthOf", "(LNestedClips$Moment;I)I"⟩
abbrev m_Sg_strengthOf : ByteArray × String × Nat × Option FieldType × String := (prog_8_method_11_code, "NestedClips$Stage", 10, some (.int), "strengthOf")
def y_Ma_minL : MethodName := ⟨"java/lang/Math", "min", "(JJ)J"⟩
abbrev m_Ma_minL : ByteArray × String × Nat × Option FieldType × String := (prog_14_method_70_code, "java/lang/Math", 4, some (.long), "min")
def y_Sg_shareLight : MethodName := ⟨"NestedClips$Stage", "shareLight", "(LNestedClips$Moment;)V"⟩
abbrev m_Sg_shareLight : ByteArray × String × Nat × Option FieldType × String := (prog_8_method_12_code, "NestedClips$Stage", 5, none, "shareLight")
def y_Nc_status : MethodName := ⟨"NestedClips", "status", "()I"⟩
abbrev m_Nc_status : ByteArray × String × Nat × Option FieldType × String := (prog_1_method_2_code, "NestedClips", 1, some (.int), "status")
def y_Nc_feed : MethodName := ⟨"NestedClips", "feed", "(IIIII)I"⟩
abbrev m_Nc_feed : ByteArray × String × Nat × Option FieldType × String := (prog_1_method_3_code, "NestedClips", 6, some (.int), "feed")
def y_Ta_putInt : MethodName := ⟨"NestedClips$Tape", "putInt", "(I)V"⟩
abbrev m_Ta_putInt : ByteArray × String × Nat × Option FieldType × String := (prog_10_method_2_code, "NestedClips$Tape", 3, none, "putInt")
def y_Nc_load : MethodName := ⟨"NestedClips", "load", "(I)I"⟩
abbrev m_Nc_load : ByteArray × String × Nat × Option FieldType × String := (prog_1_method_4_code, "NestedClips", 2, some (.int), "load")
def y_Nc_refuse : MethodName := ⟨"NestedClips", "refuse", "(I)I"⟩
abbrev m_Nc_refuse : ByteArray × String × Nat × Option FieldType × String := (prog_1_method_49_code, "NestedClips", 2, some (.int), "refuse")
def y_Rd_read : MethodName := ⟨"NestedClips$Reader", "read", "(I)V"⟩
abbrev m_Rd_read : ByteArray × String × Nat × Option FieldType × String := (prog_5_method_2_code, "NestedClips$Reader", 4, none, "read")
def y_Sh_empty : MethodName := ⟨"NestedClips$Show", "empty", "()V"⟩
abbrev m_Sh_empty : ByteArray × String × Nat × Option FieldType × String := (prog_7_method_3_code, "NestedClips$Show", 1, none, "empty")
def y_Rd_takeToken : MethodName := ⟨"NestedClips$Reader", "takeToken", "()V"⟩
abbrev m_Rd_takeToken : ByteArray × String × Nat × Option FieldType × String := (prog_5_method_21_code, "NestedClips$Reader", 1, none, "takeToken")
def y_Rd_isLetter : MethodName := ⟨"NestedClips$Reader", "isLetter", "(I)Z"⟩
abbrev m_Rd_isLetter : ByteArray × String × Nat × Option FieldType × String := (prog_5_method_25_code, "NestedClips$Reader", 2, some (.boolean), "isLetter")
def y_Rd_takeWord : MethodName := ⟨"NestedClips$Reader", "takeWord", "()V"⟩
abbrev m_Rd_takeWord : ByteArray × String × Nat × Option FieldType × String := (prog_5_method_22_code, "NestedClips$Reader", 1, none, "takeWord")
def y_Rd_withLetter : MethodName := ⟨"NestedClips$Reader", "withLetter", "(JI)J"⟩
abbrev m_Rd_withLetter : ByteArray × String × Nat × Option FieldType × String := (prog_5_method_20_code, "NestedClips$Reader", 3, some (.long), "withLetter")
def y_Rd_isDigit : MethodName := ⟨"NestedClips$Reader", "isDigit", "(I)Z"⟩
abbrev m_Rd_isDigit : ByteArray × String × Nat × Option FieldType × String := (prog_5_method_26_code, "NestedClips$Reader", 2, some (.boolean), "isDigit")
def y_Rd_takeNumber : MethodName := ⟨"NestedClips$Reader", "takeNumber", "()V"⟩
abbrev m_Rd_takeNumber : ByteArray × String × Nat × Option FieldType × String := (prog_5_method_23_code, "NestedClips$Reader", 1, none, "takeNumber")
def y_Rd_takeSign : MethodName := ⟨"NestedClips$Reader", "takeSign", "()V"⟩
abbrev m_Rd_takeSign : ByteArray × String × Nat × Option FieldType × String := (prog_5_method_24_code, "NestedClips$Reader", 2, none, "takeSign")
def y_Rd_readClip : MethodName := ⟨"NestedClips$Reader", "readClip", "()Z"⟩
abbrev m_Rd_readClip : ByteArray × String × Nat × Option FieldType × String := (prog_5_method_4_code, "NestedClips$Reader", 3, some (.boolean), "readClip")
def y_Rd_wordNumber : MethodName := ⟨"NestedClips$Reader", "wordNumber", "()I"⟩
abbrev m_Rd_wordNumber : ByteArray × String × Nat × Option FieldType × String := (prog_5_method_19_code, "NestedClips$Reader", 6, some (.int), "wordNumber")
def y_St_length : MethodName := ⟨"java/lang/String", "length", "()I"⟩
abbrev m_St_length : ByteArray × String × Nat × Option FieldType × String := (prog_15_method_54_code, "java/lang/String", 1, some (.int), "length")
def y_St_coder : MethodName := ⟨"java/lang/String", "coder", "()B"⟩
abbrev m_St_coder : ByteArray × String × Nat × Option FieldType × String := (prog_15_method_152_code, "java/lang/String", 1, some (.byte), "coder")
def y_St_charAt : MethodName := ⟨"java/lang/String", "charAt", "(I)C"⟩
abbrev m_St_charAt : ByteArray × String × Nat × Option FieldType × String := (prog_15_method_56_code, "java/lang/String", 2, some (.char), "charAt")
def y_St_isLatin1 : MethodName := ⟨"java/lang/String", "isLatin1", "()Z"⟩
abbrev m_St_isLatin1 : ByteArray × String × Nat × Option FieldType × String := (prog_15_method_154_code, "java/lang/String", 1, some (.boolean), "isLatin1")
def y_L1_charAt : MethodName := ⟨"java/lang/StringLatin1", "charAt", "([BI)C"⟩
abbrev m_L1_charAt : ByteArray × String × Nat × Option FieldType × String := (prog_16_method_2_code, "java/lang/StringLatin1", 2, some (.char), "charAt")
def y_St_checkIndex : MethodName := ⟨"java/lang/String", "checkIndex", "(II)V"⟩
abbrev m_St_checkIndex : ByteArray × String × Nat × Option FieldType × String := (prog_15_method_155_code, "java/lang/String", 2, none, "checkIndex")
def y_Pr_checkIndex : MethodName := ⟨"jdk/internal/util/Preconditions", "checkIndex", "(IILjava/util/function/BiFunction;)I"⟩
abbrev m_Pr_checkIndex : ByteArray × String × Nat × Option FieldType × String := (prog_19_method_11_code, "jdk/internal/util/Preconditions", 3, some (.int), "checkIndex")
def y_U6_charAt : MethodName := ⟨"java/lang/StringUTF16", "charAt", "([BI)C"⟩
abbrev m_U6_charAt : ByteArray × String × Nat × Option FieldType × String := (prog_17_method_83_code, "java/lang/StringUTF16", 2, some (.char), "charAt")
def y_U6_checkIndex : MethodName := ⟨"java/lang/StringUTF16", "checkIndex", "(I[B)V"⟩
abbrev m_U6_checkIndex : ByteArray × String × Nat × Option FieldType × String := (prog_17_method_91_code, "java/lang/StringUTF16", 2, none, "checkIndex")
def y_U6_length : MethodName := ⟨"java/lang/StringUTF16", "length", "([B)I"⟩
abbrev m_U6_length : ByteArray × String × Nat × Option FieldType × String := (prog_17_method_6_code, "java/lang/StringUTF16", 1, some (.int), "length")
def y_U6_getChar : MethodName := ⟨"java/lang/StringUTF16", "getChar", "([BI)C"⟩
abbrev m_U6_getChar : ByteArray × String × Nat × Option FieldType × String := (prog_17_method_5_code, "java/lang/StringUTF16", 2, some (.char), "getChar")
def y_Rd_cannotStand : MethodName := ⟨"NestedClips$Reader", "cannotStand", "()Z"⟩
abbrev m_Rd_cannotStand : ByteArray × String × Nat × Option FieldType × String := (prog_5_method_16_code, "NestedClips$Reader", 1, some (.boolean), "cannotStand")
def y_Rd_failWith : MethodName := ⟨"NestedClips$Reader", "failWith", "(I)Z"⟩
abbrev m_Rd_failWith : ByteArray × String × Nat × Option FieldType × String := (prog_5_method_15_code, "NestedClips$Reader", 2, some (.boolean), "failWith")
def y_Sh_howManyAroundNew : MethodName := ⟨"NestedClips$Show", "howManyAroundNew", "(I)I"⟩
abbrev m_Sh_howManyAroundNew : ByteArray × String × Nat × Option FieldType × String := (prog_7_method_10_code, "NestedClips$Show", 4, some (.int), "howManyAroundNew")
def y_Sh_append : MethodName := ⟨"NestedClips$Show", "append", "(II)I"⟩
abbrev m_Sh_append : ByteArray × String × Nat × Option FieldType × String := (prog_7_method_17_code, "NestedClips$Show", 6, some (.int), "append")
def y_Sh_howManyIn : MethodName := ⟨"NestedClips$Show", "howManyIn", "(I)I"⟩
abbrev m_Sh_howManyIn : ByteArray × String × Nat × Option FieldType × String := (prog_7_method_8_code, "NestedClips$Show", 4, some (.int), "howManyIn")
def y_Sh_putStart : MethodName := ⟨"NestedClips$Show", "putStart", "(IIII)V"⟩
abbrev m_Sh_putStart : ByteArray × String × Nat × Option FieldType × String := (prog_7_method_7_code, "NestedClips$Show", 5, none, "putStart")
def y_Sh_putMark : MethodName := ⟨"NestedClips$Show", "putMark", "(III)V"⟩
abbrev m_Sh_putMark : ByteArray × String × Nat × Option FieldType × String := (prog_7_method_6_code, "NestedClips$Show", 4, none, "putMark")
def y_Rd_readName : MethodName := ⟨"NestedClips$Reader", "readName", "(I)Z"⟩
abbrev m_Rd_readName : ByteArray × String × Nat × Option FieldType × String := (prog_5_method_5_code, "NestedClips$Reader", 3, some (.boolean), "readName")
def y_Rd_isName : MethodName := ⟨"NestedClips$Reader", "isName", "()Z"⟩
abbrev m_Rd_isName : ByteArray × String × Nat × Option FieldType × String := (prog_5_method_18_code, "NestedClips$Reader", 1, some (.boolean), "isName")
def y_Rd_readMark : MethodName := ⟨"NestedClips$Reader", "readMark", "(I)Z"⟩
abbrev m_Rd_readMark : ByteArray × String × Nat × Option FieldType × String := (prog_5_method_7_code, "NestedClips$Reader", 4, some (.boolean), "readMark")
def y_Ma_min : MethodName := ⟨"java/lang/Math", "min", "(II)I"⟩
abbrev m_Ma_min : ByteArray × String × Nat × Option FieldType × String := (prog_14_method_69_code, "java/lang/Math", 2, some (.int), "min")
def y_Rd_readMarkNumber : MethodName := ⟨"NestedClips$Reader", "readMarkNumber", "(II)Z"⟩
abbrev m_Rd_readMarkNumber : ByteArray × String × Nat × Option FieldType × String := (prog_5_method_8_code, "NestedClips$Reader", 3, some (.boolean), "readMarkNumber")
def y_Rd_mayBeNumber : MethodName := ⟨"NestedClips$Reader", "mayBeNumber", "(II)Z"⟩
abbrev m_Rd_mayBeNumber : ByteArray × String × Nat × Option FieldType × String := (prog_5_method_10_code, "NestedClips$Reader", 3, some (.boolean), "mayBeNumber")
def y_Rd_readStart : MethodName := ⟨"NestedClips$Reader", "readStart", "(II)Z"⟩
abbrev m_Rd_readStart : ByteArray × String × Nat × Option FieldType × String := (prog_5_method_9_code, "NestedClips$Reader", 3, some (.boolean), "readStart")
def y_Sh_isInPar : MethodName := ⟨"NestedClips$Show", "isInPar", "(I)Z"⟩
abbrev m_Sh_isInPar : ByteArray × String × Nat × Option FieldType × String := (prog_7_method_11_code, "NestedClips$Show", 2, some (.boolean), "isInPar")
def y_Rd_readSign : MethodName := ⟨"NestedClips$Reader", "readSign", "(I)Z"⟩
abbrev m_Rd_readSign : ByteArray × String × Nat × Option FieldType × String := (prog_5_method_6_code, "NestedClips$Reader", 3, some (.boolean), "readSign")
def y_Rd_isSign : MethodName := ⟨"NestedClips$Reader", "isSign", "(C)Z"⟩
abbrev m_Rd_isSign : ByteArray × String × Nat × Option FieldType × String := (prog_5_method_17_code, "NestedClips$Reader", 2, some (.boolean), "isSign")
def y_Rd_closeClip : MethodName := ⟨"NestedClips$Reader", "closeClip", "()Z"⟩
abbrev m_Rd_closeClip : ByteArray × String × Nat × Option FieldType × String := (prog_5_method_11_code, "NestedClips$Reader", 1, some (.boolean), "closeClip")
def y_Rd_findOthers : MethodName := ⟨"NestedClips$Reader", "findOthers", "()Z"⟩
abbrev m_Rd_findOthers : ByteArray × String × Nat × Option FieldType × String := (prog_5_method_12_code, "NestedClips$Reader", 3, some (.boolean), "findOthers")
def y_Rd_namedInOpen : MethodName := ⟨"NestedClips$Reader", "namedInOpen", "(J)I"⟩
abbrev m_Rd_namedInOpen : ByteArray × String × Nat × Option FieldType × String := (prog_5_method_13_code, "NestedClips$Reader", 4, some (.int), "namedInOpen")
def y_Rd_hasRing : MethodName := ⟨"NestedClips$Reader", "hasRing", "()Z"⟩
abbrev m_Rd_hasRing : ByteArray × String × Nat × Option FieldType × String := (prog_5_method_14_code, "NestedClips$Reader", 2, some (.boolean), "hasRing")
def y_Sh_startLeadsTo : MethodName := ⟨"NestedClips$Show", "startLeadsTo", "(II)Z"⟩
abbrev m_Sh_startLeadsTo : ByteArray × String × Nat × Option FieldType × String := (prog_7_method_14_code, "NestedClips$Show", 5, some (.boolean), "startLeadsTo")
def y_Rd_readEnd : MethodName := ⟨"NestedClips$Reader", "readEnd", "()V"⟩
abbrev m_Rd_readEnd : ByteArray × String × Nat × Option FieldType × String := (prog_5_method_3_code, "NestedClips$Reader", 1, none, "readEnd")
def y_Re_rewind : MethodName := ⟨"NestedClips$Reel", "rewind", "()V"⟩
abbrev m_Re_rewind : ByteArray × String × Nat × Option FieldType × String := (prog_6_method_2_code, "NestedClips$Reel", 1, none, "rewind")
def y_Nc_act : MethodName := ⟨"NestedClips", "act", "(I)I"⟩
abbrev m_Nc_act : ByteArray × String × Nat × Option FieldType × String := (prog_1_method_50_code, "NestedClips", 2, some (.int), "act")
def y_Nc_draftLasts : MethodName := ⟨"NestedClips", "draftLasts", "()I"⟩
abbrev m_Nc_draftLasts : ByteArray × String × Nat × Option FieldType × String := (prog_1_method_51_code, "NestedClips", 1, some (.int), "draftLasts")
def y_Pa_keep : MethodName := ⟨"NestedClips$Past", "keep", "(LNestedClips$Show;)V"⟩
abbrev m_Pa_keep : ByteArray × String × Nat × Option FieldType × String := (prog_4_method_2_code, "NestedClips$Past", 2, none, "keep")
def y_Sh_copyFrom : MethodName := ⟨"NestedClips$Show", "copyFrom", "(LNestedClips$Show;)V"⟩
abbrev m_Sh_copyFrom : ByteArray × String × Nat × Option FieldType × String := (prog_7_method_2_code, "NestedClips$Show", 2, none, "copyFrom")
def y_Nc_give : MethodName := ⟨"NestedClips", "give", "(I)I"⟩
abbrev m_Nc_give : ByteArray × String × Nat × Option FieldType × String := (prog_1_method_48_code, "NestedClips", 2, some (.int), "give")
def y_Nc_fault : MethodName := ⟨"NestedClips", "fault", "(I)I"⟩
abbrev m_Nc_fault : ByteArray × String × Nat × Option FieldType × String := (prog_1_method_5_code, "NestedClips", 2, some (.int), "fault")
def y_Nc_add : MethodName := ⟨"NestedClips", "add", "(II)I"⟩
abbrev m_Nc_add : ByteArray × String × Nat × Option FieldType × String := (prog_1_method_6_code, "NestedClips", 3, some (.int), "add")
def y_Sh_has : MethodName := ⟨"NestedClips$Show", "has", "(I)Z"⟩
abbrev m_Sh_has : ByteArray × String × Nat × Option FieldType × String := (prog_7_method_4_code, "NestedClips$Show", 2, some (.boolean), "has")
def y_Nc_lose : MethodName := ⟨"NestedClips", "lose", "(I)I"⟩
abbrev m_Nc_lose : ByteArray × String × Nat × Option FieldType × String := (prog_1_method_7_code, "NestedClips", 2, some (.int), "lose")
def y_Sh_startsAnother : MethodName := ⟨"NestedClips$Show", "startsAnother", "(I)Z"⟩
abbrev m_Sh_startsAnother : ByteArray × String × Nat × Option FieldType × String := (prog_7_method_13_code, "NestedClips$Show", 3, some (.boolean), "startsAnother")
def y_Sh_drop : MethodName := ⟨"NestedClips$Show", "drop", "(I)V"⟩
abbrev m_Sh_drop : ByteArray × String × Nat × Option FieldType × String := (prog_7_method_19_code, "NestedClips$Show", 5, none, "drop")
def y_Sh_bitsWithin : MethodName := ⟨"NestedClips$Show", "bitsWithin", "(I)I"⟩
abbrev m_Sh_bitsWithin : ByteArray × String × Nat × Option FieldType × String := (prog_7_method_20_code, "NestedClips$Show", 4, some (.int), "bitsWithin")
def y_Sh_copyClip : MethodName := ⟨"NestedClips$Show", "copyClip", "(III)V"⟩
abbrev m_Sh_copyClip : ByteArray × String × Nat × Option FieldType × String := (prog_7_method_21_code, "NestedClips$Show", 4, none, "copyClip")
def y_Sh_renumbered : MethodName := ⟨"NestedClips$Show", "renumbered", "(II)I"⟩
abbrev m_Sh_renumbered : ByteArray × String × Nat × Option FieldType × String := (prog_7_method_22_code, "NestedClips$Show", 2, some (.int), "renumbered")
def y_In_bitCount : MethodName := ⟨"java/lang/Integer", "bitCount", "(I)I"⟩
abbrev m_In_bitCount : ByteArray × String × Nat × Option FieldType × String := (prog_13_method_49_code, "java/lang/Integer", 1, some (.int), "bitCount")
def y_Nc_move : MethodName := ⟨"NestedClips", "move", "(II)I"⟩
abbrev m_Nc_move : ByteArray × String × Nat × Option FieldType × String := (prog_1_method_8_code, "NestedClips", 3, some (.int), "move")
def y_Sh_shift : MethodName := ⟨"NestedClips$Show", "shift", "(II)V"⟩
abbrev m_Sh_shift : ByteArray × String × Nat × Option FieldType × String := (prog_7_method_18_code, "NestedClips$Show", 5, none, "shift")
def y_Nc_mark : MethodName := ⟨"NestedClips", "mark", "(III)I"⟩
abbrev m_Nc_mark : ByteArray × String × Nat × Option FieldType × String := (prog_1_method_9_code, "NestedClips", 5, some (.int), "mark")
def y_Nc_start : MethodName := ⟨"NestedClips", "start", "(IIII)I"⟩
abbrev m_Nc_start : ByteArray × String × Nat × Option FieldType × String := (prog_1_method_10_code, "NestedClips", 8, some (.int), "start")
def y_Nc_press : MethodName := ⟨"NestedClips", "press", "(II)I"⟩
abbrev m_Nc_press : ByteArray × String × Nat × Option FieldType × String := (prog_1_method_11_code, "NestedClips", 3, some (.int), "press")
def y_Nc_isTime : MethodName := ⟨"NestedClips", "isTime", "(I)Z"⟩
abbrev m_Nc_isTime : ByteArray × String × Nat × Option FieldType × String := (prog_1_method_52_code, "NestedClips", 1, some (.boolean), "isTime")
def y_Sh_hasPress : MethodName := ⟨"NestedClips$Show", "hasPress", "(II)Z"⟩
abbrev m_Sh_hasPress : ByteArray × String × Nat × Option FieldType × String := (prog_7_method_23_code, "NestedClips$Show", 4, some (.boolean), "hasPress")
def y_Sh_appendPress : MethodName := ⟨"NestedClips$Show", "appendPress", "(II)V"⟩
abbrev m_Sh_appendPress : ByteArray × String × Nat × Option FieldType × String := (prog_7_method_24_code, "NestedClips$Show", 3, none, "appendPress")
def y_Nc_unpress : MethodName := ⟨"NestedClips", "unpress", "(I)I"⟩
abbrev m_Nc_unpress : ByteArray × String × Nat × Option FieldType × String := (prog_1_method_12_code, "NestedClips", 2, some (.int), "unpress")
def y_Sh_dropPress : MethodName := ⟨"NestedClips$Show", "dropPress", "(I)V"⟩
abbrev m_Sh_dropPress : ByteArray × String × Nat × Option FieldType × String := (prog_7_method_25_code, "NestedClips$Show", 3, none, "dropPress")
def y_Nc_undo : MethodName := ⟨"NestedClips", "undo", "()I"⟩
abbrev m_Nc_undo : ByteArray × String × Nat × Option FieldType × String := (prog_1_method_13_code, "NestedClips", 1, some (.int), "undo")
def y_Pa_bringBack : MethodName := ⟨"NestedClips$Past", "bringBack", "(LNestedClips$Show;)V"⟩
abbrev m_Pa_bringBack : ByteArray × String × Nat × Option FieldType × String := (prog_4_method_3_code, "NestedClips$Past", 2, none, "bringBack")
def y_Nc_many : MethodName := ⟨"NestedClips", "many", "(I)I"⟩
abbrev m_Nc_many : ByteArray × String × Nat × Option FieldType × String := (prog_1_method_14_code, "NestedClips", 2, some (.int), "many")
def y_Sh_leaves : MethodName := ⟨"NestedClips$Show", "leaves", "()I"⟩
abbrev m_Sh_leaves : ByteArray × String × Nat × Option FieldType × String := (prog_7_method_15_code, "NestedClips$Show", 1, some (.int), "leaves")
def y_Sh_bitsOfLeaves : MethodName := ⟨"NestedClips$Show", "bitsOfLeaves", "()I"⟩
abbrev m_Sh_bitsOfLeaves : ByteArray × String × Nat × Option FieldType × String := (prog_7_method_16_code, "NestedClips$Show", 3, some (.int), "bitsOfLeaves")
def y_La_howManyOpen : MethodName := ⟨"NestedClips$Layout", "howManyOpen", "(I)I"⟩
abbrev m_La_howManyOpen : ByteArray × String × Nat × Option FieldType × String := (prog_2_method_3_code, "NestedClips$Layout", 4, some (.int), "howManyOpen")
def y_Nc_changes : MethodName := ⟨"NestedClips", "changes", "()I"⟩
abbrev m_Nc_changes : ByteArray × String × Nat × Option FieldType × String := (prog_1_method_56_code, "NestedClips", 7, some (.int), "changes")
def y_Sg_at : MethodName := ⟨"NestedClips$Stage", "at", "(I)LNestedClips$Moment;"⟩
abbrev m_Sg_at : ByteArray × String × Nat × Option FieldType × String := (prog_8_method_3_code, "NestedClips$Stage", 3, some (.object "NestedClips$Moment"), "at")
def y_Mo_allStates : MethodName := ⟨"NestedClips$Moment", "allStates", "(I)J"⟩
abbrev m_Mo_allStates : ByteArray × String × Nat × Option FieldType × String := (prog_3_method_7_code, "NestedClips$Moment", 5, some (.long), "allStates")
def y_Nc_clip : MethodName := ⟨"NestedClips", "clip", "(II)I"⟩
abbrev m_Nc_clip : ByteArray × String × Nat × Option FieldType × String := (prog_1_method_15_code, "NestedClips", 3, some (.int), "clip")
def y_Nc_within : MethodName := ⟨"NestedClips", "within", "(II)I"⟩
abbrev m_Nc_within : ByteArray × String × Nat × Option FieldType × String := (prog_1_method_16_code, "NestedClips", 4, some (.int), "within")
def y_Nc_begin : MethodName := ⟨"NestedClips", "begin", "(I)I"⟩
abbrev m_Nc_begin : ByteArray × String × Nat × Option FieldType × String := (prog_1_method_17_code, "NestedClips", 2, some (.int), "begin")
def y_Nc_pressed : MethodName := ⟨"NestedClips", "pressed", "(II)I"⟩
abbrev m_Nc_pressed : ByteArray × String × Nat × Option FieldType × String := (prog_1_method_18_code, "NestedClips", 3, some (.int), "pressed")
def y_Nc_state : MethodName := ⟨"NestedClips", "state", "(II)I"⟩
abbrev m_Nc_state : ByteArray × String × Nat × Option FieldType × String := (prog_1_method_19_code, "NestedClips", 4, some (.int), "state")
def y_Nc_whyNotAt : MethodName := ⟨"NestedClips", "whyNotAt", "(II)I"⟩
abbrev m_Nc_whyNotAt : ByteArray × String × Nat × Option FieldType × String := (prog_1_method_53_code, "NestedClips", 3, some (.int), "whyNotAt")
def y_Nc_local : MethodName := ⟨"NestedClips", "local", "(II)I"⟩
abbrev m_Nc_local : ByteArray × String × Nat × Option FieldType × String := (prog_1_method_20_code, "NestedClips", 4, some (.int), "local")
def y_Nc_whyNotRunning : MethodName := ⟨"NestedClips", "whyNotRunning", "(II)I"⟩
abbrev m_Nc_whyNotRunning : ByteArray × String × Nat × Option FieldType × String := (prog_1_method_54_code, "NestedClips", 4, some (.int), "whyNotRunning")
def y_Nc_pass : MethodName := ⟨"NestedClips", "pass", "(II)I"⟩
abbrev m_Nc_pass : ByteArray × String × Nat × Option FieldType × String := (prog_1_method_21_code, "NestedClips", 4, some (.int), "pass")
def y_Nc_playing : MethodName := ⟨"NestedClips", "playing", "(IZ)I"⟩
abbrev m_Nc_playing : ByteArray × String × Nat × Option FieldType × String := (prog_1_method_22_code, "NestedClips", 3, some (.int), "playing")
def y_Mo_bitsOf : MethodName := ⟨"NestedClips$Moment", "bitsOf", "(II)I"⟩
abbrev m_Mo_bitsOf : ByteArray × String × Nat × Option FieldType × String := (prog_3_method_5_code, "NestedClips$Moment", 5, some (.int), "bitsOf")
def y_Nc_known : MethodName := ⟨"NestedClips", "known", "(II)I"⟩
abbrev m_Nc_known : ByteArray × String × Nat × Option FieldType × String := (prog_1_method_23_code, "NestedClips", 5, some (.int), "known")
def y_Nc_strength : MethodName := ⟨"NestedClips", "strength", "(II)I"⟩
abbrev m_Nc_strength : ByteArray × String × Nat × Option FieldType × String := (prog_1_method_24_code, "NestedClips", 4, some (.int), "strength")
def y_Nc_share : MethodName := ⟨"NestedClips", "share", "(II)I"⟩
abbrev m_Nc_share : ByteArray × String × Nat × Option FieldType × String := (prog_1_method_25_code, "NestedClips", 4, some (.int), "share")
def y_Nc_dark : MethodName := ⟨"NestedClips", "dark", "(I)I"⟩
abbrev m_Nc_dark : ByteArray × String × Nat × Option FieldType × String := (prog_1_method_26_code, "NestedClips", 2, some (.int), "dark")
def y_Nc_top : MethodName := ⟨"NestedClips", "top", "(I)I"⟩
abbrev m_Nc_top : ByteArray × String × Nat × Option FieldType × String := (prog_1_method_27_code, "NestedClips", 3, some (.int), "top")
def y_Sg_topAt : MethodName := ⟨"NestedClips$Stage", "topAt", "(I)I"⟩
abbrev m_Sg_topAt : ByteArray × String × Nat × Option FieldType × String := (prog_8_method_5_code, "NestedClips$Stage", 6, some (.int), "topAt")
def y_Nc_seen : MethodName := ⟨"NestedClips", "seen", "(I)I"⟩
abbrev m_Nc_seen : ByteArray × String × Nat × Option FieldType × String := (prog_1_method_28_code, "NestedClips", 5, some (.int), "seen")
def y_Nc_whyNoLeaf : MethodName := ⟨"NestedClips", "whyNoLeaf", "(I)I"⟩
abbrev m_Nc_whyNoLeaf : ByteArray × String × Nat × Option FieldType × String := (prog_1_method_55_code, "NestedClips", 2, some (.int), "whyNoLeaf")
def y_Nc_brightest : MethodName := ⟨"NestedClips", "brightest", "(I)I"⟩
abbrev m_Nc_brightest : ByteArray × String × Nat × Option FieldType × String := (prog_1_method_29_code, "NestedClips", 7, some (.int), "brightest")
def y_Nc_hidden : MethodName := ⟨"NestedClips", "hidden", "()I"⟩
abbrev m_Nc_hidden : ByteArray × String × Nat × Option FieldType × String := (prog_1_method_30_code, "NestedClips", 5, some (.int), "hidden")
def y_Mo_bitsOfSeen : MethodName := ⟨"NestedClips$Moment", "bitsOfSeen", "(I)I"⟩
abbrev m_Mo_bitsOfSeen : ByteArray × String × Nat × Option FieldType × String := (prog_3_method_6_code, "NestedClips$Moment", 4, some (.int), "bitsOfSeen")
def y_Nc_pieces : MethodName := ⟨"NestedClips", "pieces", "(I)I"⟩
abbrev m_Nc_pieces : ByteArray × String × Nat × Option FieldType × String := (prog_1_method_31_code, "NestedClips", 2, some (.int), "pieces")
def y_Sr_countPieces : MethodName := ⟨"NestedClips$Stretch", "countPieces", "(I)I"⟩
abbrev m_Sr_countPieces : ByteArray × String × Nat × Option FieldType × String := (prog_9_method_2_code, "NestedClips$Stretch", 2, some (.int), "countPieces")
def y_Sr_walk : MethodName := ⟨"NestedClips$Stretch", "walk", "(IIZ)I"⟩
abbrev m_Sr_walk : ByteArray × String × Nat × Option FieldType × String := (prog_9_method_8_code, "NestedClips$Stretch", 9, some (.int), "walk")
def y_Mo_playedLocal : MethodName := ⟨"NestedClips$Moment", "playedLocal", "(I)I"⟩
abbrev m_Mo_playedLocal : ByteArray × String × Nat × Option FieldType × String := (prog_3_method_4_code, "NestedClips$Moment", 2, some (.int), "playedLocal")
def y_Sr_keepsStep : MethodName := ⟨"NestedClips$Stretch", "keepsStep", "(I)Z"⟩
abbrev m_Sr_keepsStep : ByteArray × String × Nat × Option FieldType × String := (prog_9_method_9_code, "NestedClips$Stretch", 2, some (.boolean), "keepsStep")
def y_Nc_piece : MethodName := ⟨"NestedClips", "piece", "(III)I"⟩
abbrev m_Nc_piece : ByteArray × String × Nat × Option FieldType × String := (prog_1_method_32_code, "NestedClips", 4, some (.int), "piece")
def y_Sr_findPiece : MethodName := ⟨"NestedClips$Stretch", "findPiece", "(II)Z"⟩
abbrev m_Sr_findPiece : ByteArray × String × Nat × Option FieldType × String := (prog_9_method_4_code, "NestedClips$Stretch", 3, some (.boolean), "findPiece")
def y_Nc_reach : MethodName := ⟨"NestedClips", "reach", "(III)I"⟩
abbrev m_Nc_reach : ByteArray × String × Nat × Option FieldType × String := (prog_1_method_33_code, "NestedClips", 5, some (.int), "reach")
def y_Sr_firstTimeAt : MethodName := ⟨"NestedClips$Stretch", "firstTimeAt", "(II)I"⟩
abbrev m_Sr_firstTimeAt : ByteArray × String × Nat × Option FieldType × String := (prog_9_method_6_code, "NestedClips$Stretch", 5, some (.int), "firstTimeAt")
def y_Nc_spans : MethodName := ⟨"NestedClips", "spans", "(I)I"⟩
abbrev m_Nc_spans : ByteArray × String × Nat × Option FieldType × String := (prog_1_method_34_code, "NestedClips", 2, some (.int), "spans")
def y_Sr_countSpans : MethodName := ⟨"NestedClips$Stretch", "countSpans", "(I)I"⟩
abbrev m_Sr_countSpans : ByteArray × String × Nat × Option FieldType × String := (prog_9_method_3_code, "NestedClips$Stretch", 2, some (.int), "countSpans")
def y_Nc_span : MethodName := ⟨"NestedClips", "span", "(III)I"⟩
abbrev m_Nc_span : ByteArray × String × Nat × Option FieldType × String := (prog_1_method_35_code, "NestedClips", 4, some (.int), "span")
def y_Sr_findSpan : MethodName := ⟨"NestedClips$Stretch", "findSpan", "(II)Z"⟩
abbrev m_Sr_findSpan : ByteArray × String × Nat × Option FieldType × String := (prog_9_method_5_code, "NestedClips$Stretch", 3, some (.boolean), "findSpan")
def y_Sr_unlikeLocals : MethodName := ⟨"NestedClips$Stretch", "unlikeLocals", "(III)I"⟩
abbrev m_Sr_unlikeLocals : ByteArray × String × Nat × Option FieldType × String := (prog_9_method_7_code, "NestedClips$Stretch", 7, some (.int), "unlikeLocals")
def y_Sr_sortRow : MethodName := ⟨"NestedClips$Stretch", "sortRow", "(I)V"⟩
abbrev m_Sr_sortRow : ByteArray × String × Nat × Option FieldType × String := (prog_9_method_10_code, "NestedClips$Stretch", 9, none, "sortRow")
def y_Nc_ticks : MethodName := ⟨"NestedClips", "ticks", "(I)I"⟩
abbrev m_Nc_ticks : ByteArray × String × Nat × Option FieldType × String := (prog_1_method_36_code, "NestedClips", 2, some (.int), "ticks")
def y_Nc_timesOfBoth : MethodName := ⟨"NestedClips", "timesOfBoth", "(II)I"⟩
abbrev m_Nc_timesOfBoth : ByteArray × String × Nat × Option FieldType × String := (prog_1_method_57_code, "NestedClips", 6, some (.int), "timesOfBoth")
def y_Nc_both : MethodName := ⟨"NestedClips", "both", "(II)I"⟩
abbrev m_Nc_both : ByteArray × String × Nat × Option FieldType × String := (prog_1_method_37_code, "NestedClips", 4, some (.int), "both")
def y_Nc_when : MethodName := ⟨"NestedClips", "when", "(III)I"⟩
abbrev m_Nc_when : ByteArray × String × Nat × Option FieldType × String := (prog_1_method_38_code, "NestedClips", 6, some (.int), "when")
def y_Nc_frames : MethodName := ⟨"NestedClips", "frames", "(I)I"⟩
abbrev m_Nc_frames : ByteArray × String × Nat × Option FieldType × String := (prog_1_method_39_code, "NestedClips", 2, some (.int), "frames")
def y_Nc_next : MethodName := ⟨"NestedClips", "next", "(I)I"⟩
abbrev m_Nc_next : ByteArray × String × Nat × Option FieldType × String := (prog_1_method_40_code, "NestedClips", 5, some (.int), "next")
def y_Nc_most : MethodName := ⟨"NestedClips", "most", "(I)I"⟩
abbrev m_Nc_most : ByteArray × String × Nat × Option FieldType × String := (prog_1_method_41_code, "NestedClips", 6, some (.int), "most")
def y_Nc_leavesPlaying : MethodName := ⟨"NestedClips", "leavesPlaying", "(I)I"⟩
abbrev m_Nc_leavesPlaying : ByteArray × String × Nat × Option FieldType × String := (prog_1_method_58_code, "NestedClips", 2, some (.int), "leavesPlaying")
def y_Nc_gaps : MethodName := ⟨"NestedClips", "gaps", "()I"⟩
abbrev m_Nc_gaps : ByteArray × String × Nat × Option FieldType × String := (prog_1_method_42_code, "NestedClips", 3, some (.int), "gaps")
def y_Nc_fit : MethodName := ⟨"NestedClips", "fit", "(III)I"⟩
abbrev m_Nc_fit : ByteArray × String × Nat × Option FieldType × String := (prog_1_method_43_code, "NestedClips", 5, some (.int), "fit")
def y_Nc_leastRate : MethodName := ⟨"NestedClips", "leastRate", "(II)I"⟩
abbrev m_Nc_leastRate : ByteArray × String × Nat × Option FieldType × String := (prog_1_method_60_code, "NestedClips", 4, some (.int), "leastRate")
def y_Nc_lastsWithMark : MethodName := ⟨"NestedClips", "lastsWithMark", "(III)I"⟩
abbrev m_Nc_lastsWithMark : ByteArray × String × Nat × Option FieldType × String := (prog_1_method_59_code, "NestedClips", 4, some (.int), "lastsWithMark")
def y_Nc_leastMark : MethodName := ⟨"NestedClips", "leastMark", "(III)I"⟩
abbrev m_Nc_leastMark : ByteArray × String × Nat × Option FieldType × String := (prog_1_method_61_code, "NestedClips", 8, some (.int), "leastMark")
def y_Nc_slack : MethodName := ⟨"NestedClips", "slack", "(I)I"⟩
abbrev m_Nc_slack : ByteArray × String × Nat × Option FieldType × String := (prog_1_method_44_code, "NestedClips", 7, some (.int), "slack")
def y_Nc_seek : MethodName := ⟨"NestedClips", "seek", "(I)I"⟩
abbrev m_Nc_seek : ByteArray × String × Nat × Option FieldType × String := (prog_1_method_45_code, "NestedClips", 2, some (.int), "seek")
def y_Nc_play : MethodName := ⟨"NestedClips", "play", "(I)I"⟩
abbrev m_Nc_play : ByteArray × String × Nat × Option FieldType × String := (prog_1_method_46_code, "NestedClips", 2, some (.int), "play")
def y_Re_goOn : MethodName := ⟨"NestedClips$Reel", "goOn", "(LNestedClips$Stage;I)V"⟩
abbrev m_Re_goOn : ByteArray × String × Nat × Option FieldType × String := (prog_6_method_3_code, "NestedClips$Reel", 6, none, "goOn")
def y_Sg_clips : MethodName := ⟨"NestedClips$Stage", "clips", "()I"⟩
abbrev m_Sg_clips : ByteArray × String × Nat × Option FieldType × String := (prog_8_method_4_code, "NestedClips$Stage", 1, some (.int), "clips")
def y_Re_remember : MethodName := ⟨"NestedClips$Reel", "remember", "(LNestedClips$Moment;I)V"⟩
abbrev m_Re_remember : ByteArray × String × Nat × Option FieldType × String := (prog_6_method_4_code, "NestedClips$Reel", 4, none, "remember")
def y_Re_noteEvent : MethodName := ⟨"NestedClips$Reel", "noteEvent", "(LNestedClips$Moment;I)V"⟩
abbrev m_Re_noteEvent : ByteArray × String × Nat × Option FieldType × String := (prog_6_method_5_code, "NestedClips$Reel", 4, none, "noteEvent")
def y_Re_keepEvent : MethodName := ⟨"NestedClips$Reel", "keepEvent", "(III)V"⟩
abbrev m_Re_keepEvent : ByteArray × String × Nat × Option FieldType × String := (prog_6_method_6_code, "NestedClips$Reel", 4, none, "keepEvent")
def y_Nc_event : MethodName := ⟨"NestedClips", "event", "(II)I"⟩
abbrev m_Nc_event : ByteArray × String × Nat × Option FieldType × String := (prog_1_method_47_code, "NestedClips", 3, some (.int), "event")
def y_Md_init : MethodName := ⟨"NestedClipsModel", "<init>", "()V"⟩
abbrev m_Md_init : ByteArray × String × Nat × Option FieldType × String := (prog_12_method_1_code, "NestedClipsModel", 1, none, "<init>")
def y_Md_status : MethodName := ⟨"NestedClipsModel", "status", "()I"⟩
abbrev m_Md_status : ByteArray × String × Nat × Option FieldType × String := (prog_12_method_3_code, "NestedClipsModel", 1, some (.int), "status")
def y_Md_feed : MethodName := ⟨"NestedClipsModel", "feed", "(IIIII)I"⟩
abbrev m_Md_feed : ByteArray × String × Nat × Option FieldType × String := (prog_12_method_23_code, "NestedClipsModel", 6, some (.int), "feed")
def y_Md_lays : MethodName := ⟨"NestedClipsModel", "lays", "(I)V"⟩
abbrev m_Md_lays : ByteArray × String × Nat × Option FieldType × String := (prog_12_method_22_code, "NestedClipsModel", 3, none, "lays")
def y_Md_load : MethodName := ⟨"NestedClipsModel", "load", "(I)I"⟩
abbrev m_Md_load : ByteArray × String × Nat × Option FieldType × String := (prog_12_method_45_code, "NestedClipsModel", 2, some (.int), "load")
def y_Md_isIn : MethodName := ⟨"NestedClipsModel", "isIn", "(III)Z"⟩
abbrev m_Md_isIn : ByteArray × String × Nat × Option FieldType × String := (prog_12_method_5_code, "NestedClipsModel", 3, some (.boolean), "isIn")
def y_Md_refuse : MethodName := ⟨"NestedClipsModel", "refuse", "(I)I"⟩
abbrev m_Md_refuse : ByteArray × String × Nat × Option FieldType × String := (prog_12_method_4_code, "NestedClipsModel", 2, some (.int), "refuse")
def y_Md_isShow : MethodName := ⟨"NestedClipsModel", "isShow", "(I)Z"⟩
abbrev m_Md_isShow : ByteArray × String × Nat × Option FieldType × String := (prog_12_method_43_code, "NestedClipsModel", 2, some (.boolean), "isShow")
def y_Md_reads : MethodName := ⟨"NestedClipsModel", "reads", "()V"⟩
abbrev m_Md_reads : ByteArray × String × Nat × Option FieldType × String := (prog_12_method_25_code, "NestedClipsModel", 1, none, "reads")
def y_Md_isOf : MethodName := ⟨"NestedClipsModel", "isOf", "(III)Z"⟩
abbrev m_Md_isOf : ByteArray × String × Nat × Option FieldType × String := (prog_12_method_24_code, "NestedClipsModel", 4, some (.boolean), "isOf")
def y_Md_readsClip : MethodName := ⟨"NestedClipsModel", "readsClip", "(II)V"⟩
abbrev m_Md_readsClip : ByteArray × String × Nat × Option FieldType × String := (prog_12_method_38_code, "NestedClipsModel", 6, none, "readsClip")
def y_Md_key : MethodName := ⟨"NestedClipsModel", "key", "()I"⟩
abbrev m_Md_key : ByteArray × String × Nat × Option FieldType × String := (prog_12_method_30_code, "NestedClipsModel", 2, some (.int), "key")
def y_Md_wants : MethodName := ⟨"NestedClipsModel", "wants", "(ZI)V"⟩
abbrev m_Md_wants : ByteArray × String × Nat × Option FieldType × String := (prog_12_method_27_code, "NestedClipsModel", 3, none, "wants")
def y_Md_fails : MethodName := ⟨"NestedClipsModel", "fails", "(I)V"⟩
abbrev m_Md_fails : ByteArray × String × Nat × Option FieldType × String := (prog_12_method_26_code, "NestedClipsModel", 2, none, "fails")
def y_Md_depth : MethodName := ⟨"NestedClipsModel", "depth", "(I)I"⟩
abbrev m_Md_depth : ByteArray × String × Nat × Option FieldType × String := (prog_12_method_33_code, "NestedClipsModel", 4, some (.int), "depth")
def y_Md_begins : MethodName := ⟨"NestedClipsModel", "begins", "(IIII)V"⟩
abbrev m_Md_begins : ByteArray × String × Nat × Option FieldType × String := (prog_12_method_34_code, "NestedClipsModel", 7, none, "begins")
def y_Md_readsName : MethodName := ⟨"NestedClipsModel", "readsName", "(I)V"⟩
abbrev m_Md_readsName : ByteArray × String × Nat × Option FieldType × String := (prog_12_method_37_code, "NestedClipsModel", 3, none, "readsName")
def y_Md_isName : MethodName := ⟨"NestedClipsModel", "isName", "()Z"⟩
abbrev m_Md_isName : ByteArray × String × Nat × Option FieldType × String := (prog_12_method_31_code, "NestedClipsModel", 1, some (.boolean), "isName")
def y_Md_readsMark : MethodName := ⟨"NestedClipsModel", "readsMark", "(II)V"⟩
abbrev m_Md_readsMark : ByteArray × String × Nat × Option FieldType × String := (prog_12_method_35_code, "NestedClipsModel", 6, none, "readsMark")
def y_Md_takesNumber : MethodName := ⟨"NestedClipsModel", "takesNumber", "(II)I"⟩
abbrev m_Md_takesNumber : ByteArray × String × Nat × Option FieldType × String := (prog_12_method_32_code, "NestedClipsModel", 4, some (.int), "takesNumber")
def y_Md_readsStart : MethodName := ⟨"NestedClipsModel", "readsStart", "(II)V"⟩
abbrev m_Md_readsStart : ByteArray × String × Nat × Option FieldType × String := (prog_12_method_36_code, "NestedClipsModel", 3, none, "readsStart")
def y_Md_sign : MethodName := ⟨"NestedClipsModel", "sign", "(I)V"⟩
abbrev m_Md_sign : ByteArray × String × Nat × Option FieldType × String := (prog_12_method_29_code, "NestedClipsModel", 2, none, "sign")
def y_Md_isSign : MethodName := ⟨"NestedClipsModel", "isSign", "(I)Z"⟩
abbrev m_Md_isSign : ByteArray × String × Nat × Option FieldType × String := (prog_12_method_28_code, "NestedClipsModel", 2, some (.boolean), "isSign")
def y_Md_binds : MethodName := ⟨"NestedClipsModel", "binds", "(I)V"⟩
abbrev m_Md_binds : ByteArray × String × Nat × Option FieldType × String := (prog_12_method_42_code, "NestedClipsModel", 3, none, "binds")
def y_Md_isByOther : MethodName := ⟨"NestedClipsModel", "isByOther", "(II)Z"⟩
abbrev m_Md_isByOther : ByteArray × String × Nat × Option FieldType × String := (prog_12_method_40_code, "NestedClipsModel", 3, some (.boolean), "isByOther")
def y_Md_namedIn : MethodName := ⟨"NestedClipsModel", "namedIn", "(IIJ)I"⟩
abbrev m_Md_namedIn : ByteArray × String × Nat × Option FieldType × String := (prog_12_method_39_code, "NestedClipsModel", 6, some (.int), "namedIn")
def y_Md_isRound : MethodName := ⟨"NestedClipsModel", "isRound", "(II)Z"⟩
abbrev m_Md_isRound : ByteArray × String × Nat × Option FieldType × String := (prog_12_method_41_code, "NestedClipsModel", 5, some (.boolean), "isRound")
def y_Md_swaps : MethodName := ⟨"NestedClipsModel", "swaps", "()V"⟩
abbrev m_Md_swaps : ByteArray × String × Nat × Option FieldType × String := (prog_12_method_44_code, "NestedClipsModel", 3, none, "swaps")
def y_Md_lasts : MethodName := ⟨"NestedClipsModel", "lasts", "()J"⟩
abbrev m_Md_lasts : ByteArray × String × Nat × Option FieldType × String := (prog_12_method_21_code, "NestedClipsModel", 1, some (.long), "lasts")
def y_Md_laysAll : MethodName := ⟨"NestedClipsModel", "laysAll", "()V"⟩
abbrev m_Md_laysAll : ByteArray × String × Nat × Option FieldType × String := (prog_12_method_20_code, "NestedClipsModel", 4, none, "laysAll")
def y_Md_clips : MethodName := ⟨"NestedClipsModel", "clips", "()I"⟩
abbrev m_Md_clips : ByteArray × String × Nat × Option FieldType × String := (prog_12_method_6_code, "NestedClipsModel", 1, some (.int), "clips")
def y_Md_kind : MethodName := ⟨"NestedClipsModel", "kind", "(I)I"⟩
abbrev m_Md_kind : ByteArray × String × Nat × Option FieldType × String := (prog_12_method_8_code, "NestedClipsModel", 2, some (.int), "kind")
def y_Md_laysHeap : MethodName := ⟨"NestedClipsModel", "laysHeap", "(I)V"⟩
abbrev m_Md_laysHeap : ByteArray × String × Nat × Option FieldType × String := (prog_12_method_19_code, "NestedClipsModel", 6, none, "laysHeap")
def y_Md_around : MethodName := ⟨"NestedClipsModel", "around", "(I)I"⟩
abbrev m_Md_around : ByteArray × String × Nat × Option FieldType × String := (prog_12_method_9_code, "NestedClipsModel", 2, some (.int), "around")
def y_Md_laysRow : MethodName := ⟨"NestedClipsModel", "laysRow", "(I)V"⟩
abbrev m_Md_laysRow : ByteArray × String × Nat × Option FieldType × String := (prog_12_method_18_code, "NestedClipsModel", 6, none, "laysRow")
def y_Md_manyIn : MethodName := ⟨"NestedClipsModel", "manyIn", "(I)I"⟩
abbrev m_Md_manyIn : ByteArray × String × Nat × Option FieldType × String := (prog_12_method_17_code, "NestedClipsModel", 4, some (.int), "manyIn")
def y_Md_inPlace : MethodName := ⟨"NestedClipsModel", "inPlace", "(II)I"⟩
abbrev m_Md_inPlace : ByteArray × String × Nat × Option FieldType × String := (prog_12_method_16_code, "NestedClipsModel", 4, some (.int), "inPlace")
def y_Md_marked : MethodName := ⟨"NestedClipsModel", "marked", "(II)I"⟩
abbrev m_Md_marked : ByteArray × String × Nat × Option FieldType × String := (prog_12_method_10_code, "NestedClipsModel", 3, some (.int), "marked")
def y_Md_stays : MethodName := ⟨"NestedClipsModel", "stays", "()V"⟩
abbrev m_Md_stays : ByteArray × String × Nat × Option FieldType × String := (prog_12_method_15_code, "NestedClipsModel", 2, none, "stays")
def y_Md_copy : MethodName := ⟨"NestedClipsModel", "copy", "(II)V"⟩
abbrev m_Md_copy : ByteArray × String × Nat × Option FieldType × String := (prog_12_method_11_code, "NestedClipsModel", 4, none, "copy")
def y_Md_fault : MethodName := ⟨"NestedClipsModel", "fault", "(I)I"⟩
abbrev m_Md_fault : ByteArray × String × Nat × Option FieldType × String := (prog_12_method_46_code, "NestedClipsModel", 2, some (.int), "fault")
def y_Md_add : MethodName := ⟨"NestedClipsModel", "add", "(II)I"⟩
abbrev m_Md_add : ByteArray × String × Nat × Option FieldType × String := (prog_12_method_48_code, "NestedClipsModel", 5, some (.int), "add")
def y_Md_isClip : MethodName := ⟨"NestedClipsModel", "isClip", "(I)Z"⟩
abbrev m_Md_isClip : ByteArray × String × Nat × Option FieldType × String := (prog_12_method_7_code, "NestedClipsModel", 2, some (.boolean), "isClip")
def y_Md_depthNow : MethodName := ⟨"NestedClipsModel", "depthNow", "(I)I"⟩
abbrev m_Md_depthNow : ByteArray × String × Nat × Option FieldType × String := (prog_12_method_47_code, "NestedClipsModel", 4, some (.int), "depthNow")
def y_Md_copyClip : MethodName := ⟨"NestedClipsModel", "copyClip", "(III)V"⟩
abbrev m_Md_copyClip : ByteArray × String × Nat × Option FieldType × String := (prog_12_method_49_code, "NestedClipsModel", 5, none, "copyClip")
def y_Md_keeps : MethodName := ⟨"NestedClipsModel", "keeps", "()V"⟩
abbrev m_Md_keeps : ByteArray × String × Nat × Option FieldType × String := (prog_12_method_12_code, "NestedClipsModel", 2, none, "keeps")
def y_Md_lose : MethodName := ⟨"NestedClipsModel", "lose", "(I)I"⟩
abbrev m_Md_lose : ByteArray × String × Nat × Option FieldType × String := (prog_12_method_52_code, "NestedClipsModel", 5, some (.int), "lose")
def y_Md_isWithin : MethodName := ⟨"NestedClipsModel", "isWithin", "(II)Z"⟩
abbrev m_Md_isWithin : ByteArray × String × Nat × Option FieldType × String := (prog_12_method_50_code, "NestedClipsModel", 4, some (.boolean), "isWithin")
def y_Md_numberBehind : MethodName := ⟨"NestedClipsModel", "numberBehind", "(II)I"⟩
abbrev m_Md_numberBehind : ByteArray × String × Nat × Option FieldType × String := (prog_12_method_51_code, "NestedClipsModel", 5, some (.int), "numberBehind")
def y_Md_move : MethodName := ⟨"NestedClipsModel", "move", "(II)I"⟩
abbrev m_Md_move : ByteArray × String × Nat × Option FieldType × String := (prog_12_method_53_code, "NestedClipsModel", 6, some (.int), "move")
def y_Md_tries : MethodName := ⟨"NestedClipsModel", "tries", "()V"⟩
abbrev m_Md_tries : ByteArray × String × Nat × Option FieldType × String := (prog_12_method_14_code, "NestedClipsModel", 1, none, "tries")
def y_Md_takesBack : MethodName := ⟨"NestedClipsModel", "takesBack", "()Z"⟩
abbrev m_Md_takesBack : ByteArray × String × Nat × Option FieldType × String := (prog_12_method_13_code, "NestedClipsModel", 1, some (.boolean), "takesBack")
def y_Md_mark : MethodName := ⟨"NestedClipsModel", "mark", "(III)I"⟩
abbrev m_Md_mark : ByteArray × String × Nat × Option FieldType × String := (prog_12_method_55_code, "NestedClipsModel", 5, some (.int), "mark")
def y_Md_canBe : MethodName := ⟨"NestedClipsModel", "canBe", "(II)Z"⟩
abbrev m_Md_canBe : ByteArray × String × Nat × Option FieldType × String := (prog_12_method_54_code, "NestedClipsModel", 2, some (.boolean), "canBe")
def y_Md_start : MethodName := ⟨"NestedClipsModel", "start", "(IIII)I"⟩
abbrev m_Md_start : ByteArray × String × Nat × Option FieldType × String := (prog_12_method_57_code, "NestedClipsModel", 8, some (.int), "start")
def y_Md_isInHeap : MethodName := ⟨"NestedClipsModel", "isInHeap", "(I)Z"⟩
abbrev m_Md_isInHeap : ByteArray × String × Nat × Option FieldType × String := (prog_12_method_56_code, "NestedClipsModel", 2, some (.boolean), "isInHeap")
def y_Md_press : MethodName := ⟨"NestedClipsModel", "press", "(II)I"⟩
abbrev m_Md_press : ByteArray × String × Nat × Option FieldType × String := (prog_12_method_58_code, "NestedClipsModel", 5, some (.int), "press")
def y_Md_unpress : MethodName := ⟨"NestedClipsModel", "unpress", "(I)I"⟩
abbrev m_Md_unpress : ByteArray × String × Nat × Option FieldType × String := (prog_12_method_59_code, "NestedClipsModel", 3, some (.int), "unpress")
def y_Md_undo : MethodName := ⟨"NestedClipsModel", "undo", "()I"⟩
abbrev m_Md_undo : ByteArray × String × Nat × Option FieldType × String := (prog_12_method_60_code, "NestedClipsModel", 1, some (.int), "undo")
def y_Md_many : MethodName := ⟨"NestedClipsModel", "many", "(I)I"⟩
abbrev m_Md_many : ByteArray × String × Nat × Option FieldType × String := (prog_12_method_77_code, "NestedClipsModel", 2, some (.int), "many")
def y_Md_leaves : MethodName := ⟨"NestedClipsModel", "leaves", "()I"⟩
abbrev m_Md_leaves : ByteArray × String × Nat × Option FieldType × String := (prog_12_method_74_code, "NestedClipsModel", 3, some (.int), "leaves")
def y_Md_opensMany : MethodName := ⟨"NestedClipsModel", "opensMany", "()I"⟩
abbrev m_Md_opensMany : ByteArray × String × Nat × Option FieldType × String := (prog_12_method_73_code, "NestedClipsModel", 3, some (.int), "opensMany")
def y_Md_changes : MethodName := ⟨"NestedClipsModel", "changes", "()I"⟩
abbrev m_Md_changes : ByteArray × String × Nat × Option FieldType × String := (prog_12_method_76_code, "NestedClipsModel", 3, some (.int), "changes")
def y_Md_laysPresses : MethodName := ⟨"NestedClipsModel", "laysPresses", "()V"⟩
abbrev m_Md_laysPresses : ByteArray × String × Nat × Option FieldType × String := (prog_12_method_69_code, "NestedClipsModel", 2, none, "laysPresses")
def y_Md_sortsPresses : MethodName := ⟨"NestedClipsModel", "sortsPresses", "()V"⟩
abbrev m_Md_sortsPresses : ByteArray × String × Nat × Option FieldType × String := (prog_12_method_61_code, "NestedClipsModel", 3, none, "sortsPresses")
def y_Md_laysSlot : MethodName := ⟨"NestedClipsModel", "laysSlot", "(II)V"⟩
abbrev m_Md_laysSlot : ByteArray × String × Nat × Option FieldType × String := (prog_12_method_68_code, "NestedClipsModel", 5, none, "laysSlot")
def y_Md_laysClip : MethodName := ⟨"NestedClipsModel", "laysClip", "(IIJI)V"⟩
abbrev m_Md_laysClip : ByteArray × String × Nat × Option FieldType × String := (prog_12_method_65_code, "NestedClipsModel", 13, none, "laysClip")
def y_Md_beginAt : MethodName := ⟨"NestedClipsModel", "beginAt", "(III)J"⟩
abbrev m_Md_beginAt : ByteArray × String × Nat × Option FieldType × String := (prog_12_method_64_code, "NestedClipsModel", 7, some (.long), "beginAt")
def y_Md_byPress : MethodName := ⟨"NestedClipsModel", "byPress", "(III)J"⟩
abbrev m_Md_byPress : ByteArray × String × Nat × Option FieldType × String := (prog_12_method_63_code, "NestedClipsModel", 8, some (.long), "byPress")
def y_Md_samePasses : MethodName := ⟨"NestedClipsModel", "samePasses", "(III)Z"⟩
abbrev m_Md_samePasses : ByteArray × String × Nat × Option FieldType × String := (prog_12_method_62_code, "NestedClipsModel", 5, some (.boolean), "samePasses")
def y_Md_strengthBy : MethodName := ⟨"NestedClipsModel", "strengthBy", "(IIJ)I"⟩
abbrev m_Md_strengthBy : ByteArray × String × Nat × Option FieldType × String := (prog_12_method_67_code, "NestedClipsModel", 8, some (.int), "strengthBy")
def y_Md_least : MethodName := ⟨"NestedClipsModel", "least", "(JJ)J"⟩
abbrev m_Md_least : ByteArray × String × Nat × Option FieldType × String := (prog_12_method_66_code, "NestedClipsModel", 4, some (.long), "least")
def y_Md_isChange : MethodName := ⟨"NestedClipsModel", "isChange", "(I)Z"⟩
abbrev m_Md_isChange : ByteArray × String × Nat × Option FieldType × String := (prog_12_method_75_code, "NestedClipsModel", 3, some (.boolean), "isChange")
def y_Md_clip : MethodName := ⟨"NestedClipsModel", "clip", "(II)I"⟩
abbrev m_Md_clip : ByteArray × String × Nat × Option FieldType × String := (prog_12_method_78_code, "NestedClipsModel", 3, some (.int), "clip")
def y_Md_within : MethodName := ⟨"NestedClipsModel", "within", "(II)I"⟩
abbrev m_Md_within : ByteArray × String × Nat × Option FieldType × String := (prog_12_method_79_code, "NestedClipsModel", 4, some (.int), "within")
def y_Md_begin : MethodName := ⟨"NestedClipsModel", "begin", "(I)I"⟩
abbrev m_Md_begin : ByteArray × String × Nat × Option FieldType × String := (prog_12_method_80_code, "NestedClipsModel", 2, some (.int), "begin")
def y_Md_pressed : MethodName := ⟨"NestedClipsModel", "pressed", "(II)I"⟩
abbrev m_Md_pressed : ByteArray × String × Nat × Option FieldType × String := (prog_12_method_81_code, "NestedClipsModel", 3, some (.int), "pressed")
def y_Md_state : MethodName := ⟨"NestedClipsModel", "state", "(II)I"⟩
abbrev m_Md_state : ByteArray × String × Nat × Option FieldType × String := (prog_12_method_83_code, "NestedClipsModel", 3, some (.int), "state")
def y_Md_asks : MethodName := ⟨"NestedClipsModel", "asks", "(II)Z"⟩
abbrev m_Md_asks : ByteArray × String × Nat × Option FieldType × String := (prog_12_method_82_code, "NestedClipsModel", 3, some (.boolean), "asks")
def y_Md_stateOf : MethodName := ⟨"NestedClipsModel", "stateOf", "(I)I"⟩
abbrev m_Md_stateOf : ByteArray × String × Nat × Option FieldType × String := (prog_12_method_70_code, "NestedClipsModel", 2, some (.int), "stateOf")
def y_Md_local : MethodName := ⟨"NestedClipsModel", "local", "(II)I"⟩
abbrev m_Md_local : ByteArray × String × Nat × Option FieldType × String := (prog_12_method_84_code, "NestedClipsModel", 3, some (.int), "local")
def y_Md_localOf : MethodName := ⟨"NestedClipsModel", "localOf", "(I)J"⟩
abbrev m_Md_localOf : ByteArray × String × Nat × Option FieldType × String := (prog_12_method_72_code, "NestedClipsModel", 2, some (.long), "localOf")
def y_Md_pass : MethodName := ⟨"NestedClipsModel", "pass", "(II)I"⟩
abbrev m_Md_pass : ByteArray × String × Nat × Option FieldType × String := (prog_12_method_85_code, "NestedClipsModel", 3, some (.int), "pass")
def y_Md_playing : MethodName := ⟨"NestedClipsModel", "playing", "(IZ)I"⟩
abbrev m_Md_playing : ByteArray × String × Nat × Option FieldType × String := (prog_12_method_87_code, "NestedClipsModel", 3, some (.int), "playing")
def y_Md_setOf : MethodName := ⟨"NestedClipsModel", "setOf", "(I)I"⟩
abbrev m_Md_setOf : ByteArray × String × Nat × Option FieldType × String := (prog_12_method_86_code, "NestedClipsModel", 4, some (.int), "setOf")
def y_Md_known : MethodName := ⟨"NestedClipsModel", "known", "(II)I"⟩
abbrev m_Md_known : ByteArray × String × Nat × Option FieldType × String := (prog_12_method_88_code, "NestedClipsModel", 3, some (.int), "known")
def y_Md_strength : MethodName := ⟨"NestedClipsModel", "strength", "(II)I"⟩
abbrev m_Md_strength : ByteArray × String × Nat × Option FieldType × String := (prog_12_method_89_code, "NestedClipsModel", 3, some (.int), "strength")
def y_Md_share : MethodName := ⟨"NestedClipsModel", "share", "(II)I"⟩
abbrev m_Md_share : ByteArray × String × Nat × Option FieldType × String := (prog_12_method_93_code, "NestedClipsModel", 3, some (.int), "share")
def y_Md_laysStanding : MethodName := ⟨"NestedClipsModel", "laysStanding", "()V"⟩
abbrev m_Md_laysStanding : ByteArray × String × Nat × Option FieldType × String := (prog_12_method_91_code, "NestedClipsModel", 3, none, "laysStanding")
def y_Md_standsAhead : MethodName := ⟨"NestedClipsModel", "standsAhead", "(II)Z"⟩
abbrev m_Md_standsAhead : ByteArray × String × Nat × Option FieldType × String := (prog_12_method_90_code, "NestedClipsModel", 3, some (.boolean), "standsAhead")
def y_Md_laysShares : MethodName := ⟨"NestedClipsModel", "laysShares", "(I)V"⟩
abbrev m_Md_laysShares : ByteArray × String × Nat × Option FieldType × String := (prog_12_method_92_code, "NestedClipsModel", 4, none, "laysShares")
def y_Md_dark : MethodName := ⟨"NestedClipsModel", "dark", "(I)I"⟩
abbrev m_Md_dark : ByteArray × String × Nat × Option FieldType × String := (prog_12_method_95_code, "NestedClipsModel", 2, some (.int), "dark")
def y_Md_asksLight : MethodName := ⟨"NestedClipsModel", "asksLight", "(I)Z"⟩
abbrev m_Md_asksLight : ByteArray × String × Nat × Option FieldType × String := (prog_12_method_94_code, "NestedClipsModel", 2, some (.boolean), "asksLight")
def y_Md_top : MethodName := ⟨"NestedClipsModel", "top", "(I)I"⟩
abbrev m_Md_top : ByteArray × String × Nat × Option FieldType × String := (prog_12_method_96_code, "NestedClipsModel", 4, some (.int), "top")
def y_Md_seen : MethodName := ⟨"NestedClipsModel", "seen", "(I)I"⟩
abbrev m_Md_seen : ByteArray × String × Nat × Option FieldType × String := (prog_12_method_99_code, "NestedClipsModel", 2, some (.int), "seen")
def y_Md_asksLeaf : MethodName := ⟨"NestedClipsModel", "asksLeaf", "(I)Z"⟩
abbrev m_Md_asksLeaf : ByteArray × String × Nat × Option FieldType × String := (prog_12_method_98_code, "NestedClipsModel", 2, some (.boolean), "asksLeaf")
def y_Md_laysLights : MethodName := ⟨"NestedClipsModel", "laysLights", "()V"⟩
abbrev m_Md_laysLights : ByteArray × String × Nat × Option FieldType × String := (prog_12_method_97_code, "NestedClipsModel", 4, none, "laysLights")
def y_Md_plays : MethodName := ⟨"NestedClipsModel", "plays", "(I)Z"⟩
abbrev m_Md_plays : ByteArray × String × Nat × Option FieldType × String := (prog_12_method_71_code, "NestedClipsModel", 2, some (.boolean), "plays")
def y_Md_brightest : MethodName := ⟨"NestedClipsModel", "brightest", "(I)I"⟩
abbrev m_Md_brightest : ByteArray × String × Nat × Option FieldType × String := (prog_12_method_100_code, "NestedClipsModel", 2, some (.int), "brightest")
def y_Md_hidden : MethodName := ⟨"NestedClipsModel", "hidden", "()I"⟩
abbrev m_Md_hidden : ByteArray × String × Nat × Option FieldType × String := (prog_12_method_101_code, "NestedClipsModel", 3, some (.int), "hidden")
def y_Md_pieces : MethodName := ⟨"NestedClipsModel", "pieces", "(I)I"⟩
abbrev m_Md_pieces : ByteArray × String × Nat × Option FieldType × String := (prog_12_method_107_code, "NestedClipsModel", 4, some (.int), "pieces")
def y_Md_laysTimes : MethodName := ⟨"NestedClipsModel", "laysTimes", "(I)V"⟩
abbrev m_Md_laysTimes : ByteArray × String × Nat × Option FieldType × String := (prog_12_method_102_code, "NestedClipsModel", 3, none, "laysTimes")
def y_Md_goesPiece : MethodName := ⟨"NestedClipsModel", "goesPiece", "(I)Z"⟩
abbrev m_Md_goesPiece : ByteArray × String × Nat × Option FieldType × String := (prog_12_method_106_code, "NestedClipsModel", 4, some (.boolean), "goesPiece")
def y_Md_piece : MethodName := ⟨"NestedClipsModel", "piece", "(III)I"⟩
abbrev m_Md_piece : ByteArray × String × Nat × Option FieldType × String := (prog_12_method_109_code, "NestedClipsModel", 4, some (.int), "piece")
def y_Md_asksPiece : MethodName := ⟨"NestedClipsModel", "asksPiece", "(ZII)Z"⟩
abbrev m_Md_asksPiece : ByteArray × String × Nat × Option FieldType × String := (prog_12_method_108_code, "NestedClipsModel", 6, some (.boolean), "asksPiece")
def y_Md_stepOf : MethodName := ⟨"NestedClipsModel", "stepOf", "()J"⟩
abbrev m_Md_stepOf : ByteArray × String × Nat × Option FieldType × String := (prog_12_method_105_code, "NestedClipsModel", 1, some (.long), "stepOf")
def y_Md_reach : MethodName := ⟨"NestedClipsModel", "reach", "(III)I"⟩
abbrev m_Md_reach : ByteArray × String × Nat × Option FieldType × String := (prog_12_method_110_code, "NestedClipsModel", 7, some (.int), "reach")
def y_Md_spans : MethodName := ⟨"NestedClipsModel", "spans", "(I)I"⟩
abbrev m_Md_spans : ByteArray × String × Nat × Option FieldType × String := (prog_12_method_111_code, "NestedClipsModel", 4, some (.int), "spans")
def y_Md_isFirst : MethodName := ⟨"NestedClipsModel", "isFirst", "(I)Z"⟩
abbrev m_Md_isFirst : ByteArray × String × Nat × Option FieldType × String := (prog_12_method_104_code, "NestedClipsModel", 2, some (.boolean), "isFirst")
def y_Md_span : MethodName := ⟨"NestedClipsModel", "span", "(III)I"⟩
abbrev m_Md_span : ByteArray × String × Nat × Option FieldType × String := (prog_12_method_112_code, "NestedClipsModel", 7, some (.int), "span")
def y_Md_unlike : MethodName := ⟨"NestedClipsModel", "unlike", "(II)I"⟩
abbrev m_Md_unlike : ByteArray × String × Nat × Option FieldType × String := (prog_12_method_103_code, "NestedClipsModel", 7, some (.int), "unlike")
def y_Md_ticks : MethodName := ⟨"NestedClipsModel", "ticks", "(I)I"⟩
abbrev m_Md_ticks : ByteArray × String × Nat × Option FieldType × String := (prog_12_method_113_code, "NestedClipsModel", 4, some (.int), "ticks")
def y_Md_both : MethodName := ⟨"NestedClipsModel", "both", "(II)I"⟩
abbrev m_Md_both : ByteArray × String × Nat × Option FieldType × String := (prog_12_method_114_code, "NestedClipsModel", 5, some (.int), "both")
def y_Md_when : MethodName := ⟨"NestedClipsModel", "when", "(III)I"⟩
abbrev m_Md_when : ByteArray × String × Nat × Option FieldType × String := (prog_12_method_115_code, "NestedClipsModel", 6, some (.int), "when")
def y_Md_frames : MethodName := ⟨"NestedClipsModel", "frames", "(I)I"⟩
abbrev m_Md_frames : ByteArray × String × Nat × Option FieldType × String := (prog_12_method_116_code, "NestedClipsModel", 2, some (.int), "frames")
def y_Md_next : MethodName := ⟨"NestedClipsModel", "next", "(I)I"⟩
abbrev m_Md_next : ByteArray × String × Nat × Option FieldType × String := (prog_12_method_117_code, "NestedClipsModel", 3, some (.int), "next")
def y_Md_most : MethodName := ⟨"NestedClipsModel", "most", "(I)I"⟩
abbrev m_Md_most : ByteArray × String × Nat × Option FieldType × String := (prog_12_method_119_code, "NestedClipsModel", 6, some (.int), "most")
def y_Md_leavesPlaying : MethodName := ⟨"NestedClipsModel", "leavesPlaying", "()I"⟩
abbrev m_Md_leavesPlaying : ByteArray × String × Nat × Option FieldType × String := (prog_12_method_118_code, "NestedClipsModel", 3, some (.int), "leavesPlaying")
def y_Md_gaps : MethodName := ⟨"NestedClipsModel", "gaps", "()I"⟩
abbrev m_Md_gaps : ByteArray × String × Nat × Option FieldType × String := (prog_12_method_120_code, "NestedClipsModel", 4, some (.int), "gaps")
def y_Md_fit : MethodName := ⟨"NestedClipsModel", "fit", "(III)I"⟩
abbrev m_Md_fit : ByteArray × String × Nat × Option FieldType × String := (prog_12_method_121_code, "NestedClipsModel", 9, some (.int), "fit")
def y_Md_slack : MethodName := ⟨"NestedClipsModel", "slack", "(I)I"⟩
abbrev m_Md_slack : ByteArray × String × Nat × Option FieldType × String := (prog_12_method_122_code, "NestedClipsModel", 7, some (.int), "slack")
def y_Md_seek : MethodName := ⟨"NestedClipsModel", "seek", "(I)I"⟩
abbrev m_Md_seek : ByteArray × String × Nat × Option FieldType × String := (prog_12_method_123_code, "NestedClipsModel", 2, some (.int), "seek")
def y_Md_play : MethodName := ⟨"NestedClipsModel", "play", "(I)I"⟩
abbrev m_Md_play : ByteArray × String × Nat × Option FieldType × String := (prog_12_method_126_code, "NestedClipsModel", 3, some (.int), "play")
def y_Md_steps : MethodName := ⟨"NestedClipsModel", "steps", "()V"⟩
abbrev m_Md_steps : ByteArray × String × Nat × Option FieldType × String := (prog_12_method_125_code, "NestedClipsModel", 3, none, "steps")
def y_Md_tells : MethodName := ⟨"NestedClipsModel", "tells", "(II)V"⟩
abbrev m_Md_tells : ByteArray × String × Nat × Option FieldType × String := (prog_12_method_124_code, "NestedClipsModel", 3, none, "tells")
def y_Md_event : MethodName := ⟨"NestedClipsModel", "event", "(II)I"⟩
abbrev m_Md_event : ByteArray × String × Nat × Option FieldType × String := (prog_12_method_127_code, "NestedClipsModel", 3, some (.int), "event")
end
section
/-! THE WORLD AS NUMBERS. All cells from an address on are ours; each has a shape that stays (its class, its references, its length), and its numbers: σ k j is what stands at place j of cell k. -/
/-- an object: its class, its fields (a reference or null, or a type); an array: its kind (0 int, 1 long, 2 byte, 3 boolean, 4 and 5 references), its length, its references -/
abbrev zSh : Type := (Nat × List (Option Nat ⊕ FieldType)) ⊕ (Nat × Nat × (Nat → Option Nat))
abbrev zSt : Type := Nat → Nat → Int
/-- the launch, the first address that is ours, the classes, their slots, the arrays' classes, where the statics lie -/
abbrev zG : Type := Launch × Nat × (Nat → ClassId) × (Nat → Nat → Nat) × (Nat → ClassId) × (Nat → Nat)
/-- a method: its bytes, its class, its locals, what it returns, its name -/
abbrev zM : Type := ByteArray × String × Nat × Option FieldType × String
abbrev zX : Type := Program × Env × State × MethodId × Array Value × List Frame × Method × Code
/-- how deep calls may go; cells and slots made so far; cells and slots that may be made -/
abbrev zK : Type := Nat × Nat × Nat × Nat × Nat
abbrev zPost : Type := Option Value → Nat → (Nat → zSh) → zSt → Prop
def zA (G : zG) : Nat → Prop := fun q => G.2.1 ≤ q
abbrev vi (e : Int) : Value := .int (Int32.ofInt e)
abbrev vl (e : Int) : Value := .long (Int64.ofInt e)
abbrev vr (G : zG) (k : Nat) : Value := .ref (G.2.1 + k)
def zFld (G : zG) (τ : Nat → Int) (j : Nat) (t : Option Nat ⊕ FieldType) : Value := match t with
  | .inl none => .null
  | .inl (some k) => vr G k
  | .inr .long => vl (τ j)
  | .inr _ => vi (τ j)
def zE (G : zG) (h : zSh) (τ : Nat → Int) : va_E := match h with
  | .inl o => .inr (o.1, o.2.mapIdx (zFld G τ))
  | .inr a => .inl (G.2.2.2.2.1 a.1, a.2.1, if a.1 = 1 then .inr (.inl (fun i => Int64.ofInt (τ i))) else if a.1 < 4 then .inl (fun i => Int32.ofInt (τ i)) else .inr (.inr (.inr (.inr (fun i => (a.2.2 i).map (fun k => G.2.1 + k))))))
def zW (G : zG) (n : Nat) (sh : Nat → zSh) (σ : zSt) : va_W := (List.range n).map fun k => (G.2.1 + k, zE G (sh k) (σ k))
def zD (G : zG) : va_G := (G.2.2.1, G.2.2.2.1)
def zTy (G : zG) : List (ClassId × FieldType) := [(G.2.2.2.2.1 0, .int), (G.2.2.2.2.1 1, .long), (G.2.2.2.2.1 2, .byte), (G.2.2.2.2.1 3, .boolean), (G.2.2.2.2.1 4, .object "NestedClips$Show"), (G.2.2.2.2.1 5, .object "NestedClips$Moment")]
/-- one function changed at a place -/
def zu {α : Type} (f : Nat → α) (k : Nat) (v : α) : Nat → α := fun j => if j = k then v else f j
/-- one number changed -/
def zs (σ : zSt) (k j : Nat) (v : Int) : zSt := fun a b => if a = k ∧ b = j then v else σ a b
theorem zu_eq {α : Type} (f : Nat → α) (k : Nat) (v : α) : zu f k v k = v := if_pos rfl
theorem zu_ne {α : Type} {f : Nat → α} {k j : Nat} {v : α} (h : j ≠ k) : zu f k v j = f j := if_neg h
theorem zs_eq (σ : zSt) (k j : Nat) (v : Int) : zs σ k j v k j = v := if_pos ⟨rfl, rfl⟩
theorem zs_ne {σ : zSt} {k j a b : Nat} {v : Int} (h : ¬ (a = k ∧ b = j)) : zs σ k j v a b = σ a b := if_neg h
theorem zs_row (σ : zSt) (k j : Nat) (v : Int) : zs σ k j v k = zu (σ k) j v := by
  funext b
  by_cases h : b = j
  · subst h; rw [zs_eq, zu_eq]
  · rw [zs_ne (fun q => h q.2), zu_ne h]
theorem zs_other {σ : zSt} {k j a : Nat} {v : Int} (h : a ≠ k) : zs σ k j v a = σ a := by
  funext b
  exact zs_ne (fun q => h q.1)
/-! the list of cells -/
theorem zW_get {G : zG} {n : Nat} {sh : Nat → zSh} {σ : zSt} {k : Nat} (h : k < n) : (zW G n sh σ)[k]? = some (G.2.1 + k, zE G (sh k) (σ k)) := by
  simp [zW, h]
theorem zW_len (G : zG) (n : Nat) (sh : Nat → zSh) (σ : zSt) : (zW G n sh σ).length = n := by simp [zW]
theorem zW_set {G : zG} {n : Nat} {sh sh' : Nat → zSh} {σ σ' : zSt} {k : Nat} {e : va_E} (h : k < n) (he : e = zE G (sh' k) (σ' k)) (h1 : ∀ i, i ≠ k → sh' i = sh i) (h2 : ∀ i, i ≠ k → σ' i = σ i) : (zW G n sh σ).set k (G.2.1 + k, e) = zW G n sh' σ' := by
  apply List.ext_getElem?
  intro i
  rw [List.getElem?_set, zW_len]
  by_cases hi : k = i
  · subst hi
    rw [if_pos rfl, if_pos h, zW_get h, he]
  · rw [if_neg hi]
    by_cases hn : i < n
    · rw [zW_get hn, zW_get hn, h1 i (fun q => hi q.symm), h2 i (fun q => hi q.symm)]
    · rw [List.getElem?_eq_none (by rw [zW_len]; omega), List.getElem?_eq_none (by rw [zW_len]; omega)]
theorem zW_push {G : zG} {n : Nat} {sh sh' : Nat → zSh} {σ σ' : zSt} {e : va_E} (he : e = zE G (sh' n) (σ' n)) (h1 : ∀ i, i < n → sh' i = sh i) (h2 : ∀ i, i < n → σ' i = σ i) : zW G n sh σ ++ [(G.2.1 + n, e)] = zW G (n + 1) sh' σ' := by
  apply List.ext_getElem?
  intro i
  by_cases hi : i < n
  · rw [List.getElem?_append_left (by rw [zW_len]; exact hi), zW_get hi, zW_get (by omega), h1 i hi, h2 i hi]
  · rw [List.getElem?_append_right (by rw [zW_len]; omega), zW_len]
    by_cases hn : i = n
    · subst hn
      rw [Nat.sub_self, zW_get (by omega), he]; rfl
    · rw [List.getElem?_eq_none (by simp; omega), List.getElem?_eq_none (by rw [zW_len]; omega)]
theorem zW_D (G : zG) (n : Nat) (sh : Nat → zSh) (σ : zSt) : va_D (zA G) (zW G n sh σ) := by
  have lt : ∀ (k : Nat) (q : Nat × va_E), (zW G n sh σ)[k]? = some q → k < n ∧ q.1 = G.2.1 + k := by
    intro k q h
    have hk : k < n := by rw [← zW_len G n sh σ]; exact (List.getElem?_eq_some_iff.mp h).1
    rw [zW_get hk] at h
    cases h
    exact ⟨hk, rfl⟩
  refine ⟨fun i j a b ha hb e => ?_, fun k q h => ?_⟩
  · have := (lt i a ha).2; have := (lt j b hb).2
    omega
  · rw [(lt k q h).2]
    exact Nat.le_add_right _ _
/-! what is fixed in a method -/
def zR (d mc ms : Nat) : Room := { frames := d, cells := mc, slots := ms, locals := 64 * d }
def zTab (i j : Nat) : Int := (([[0, 1, 1, 0, 0, 0, 0, 0, 0], [999, 4, 9, 999, 1, 1, 9, 20, 20], [1, 1, 1, 1, 0, 0, 0, 0, 0], [1093, 364, 121, 40, 13, 4, 1]] : List (List Int)).getD i []).getD j 0
def zTl (i : Nat) : Nat := if i = 3 then 7 else 9
def zTn (i : Nat) : String × String := if i = 0 then ("NestedClips", "MARK_LEAST") else if i = 1 then ("NestedClips", "MARK_MOST") else if i = 2 then ("NestedClips", "TOLD_LEAST") else ("NestedClips$Stretch", "SORT_STEPS")
def zWords : String := "leaf par seq dur rate times cut back hold layer in out at with behind press "
def zBytes : List Int32 := zWords.toList.map (fun c => Int32.ofNat c.toNat)
/-- words that go from a caller to a callee by a row of their own -/
def zNf : List (String × Nat × String × String × String × String) := [("NestedClips$Stage", 93, "NestedClips", "MARK_MOST", "[I", "NestedClips"), ("NestedClips$Show", 73, "NestedClips", "MARK_LEAST", "[I", "NestedClips"), ("NestedClips$Reader", 144, "NestedClips", "TOLD_LEAST", "[I", "NestedClips"), ("NestedClips$Reader", 147, "NestedClips", "MARK_MOST", "[I", "NestedClips")]
def zNm : List (String × Nat × MethodName × String) := [("NestedClips", 9, ⟨"NestedClips$Show", "<init>", "()V"⟩, "NestedClips"), ("NestedClips", 21, ⟨"NestedClips$Layout", "<init>", "()V"⟩, "NestedClips"), ("NestedClips$Stage", 11, ⟨"NestedClips$Moment", "<init>", "()V"⟩, "NestedClips"), ("NestedClips$Past", 17, ⟨"NestedClips$Show", "<init>", "()V"⟩, "NestedClips"), ("NestedClips", 56, ⟨"NestedClips$Tape", "<init>", "()V"⟩, "NestedClips"), ("NestedClips", 72, ⟨"NestedClips$Reel", "<init>", "()V"⟩, "NestedClips")]
def zS (G : zG) (U : State) (H : Heap) : Prop :=
  (∀ i, i < 4 → va_Z (zTn i).1 (zTn i).2 "[I" (.ref (G.2.2.2.2.2 i)) (zA G) U H ∧ va_T .int (G.2.2.2.2.2 i) (zTl i) (fun j => vi (zTab i j)) (zA G) U H) ∧
  (vk_R "NestedClips$Reader" 185 zWords (G.2.2.2.2.2 4) U ∧ vk_S 1 [zBytes.length] [zBytes] (fun _ => G.2.2.2.2.2 4) (fun _ => G.2.2.2.2.2 5) (zA G) U H) ∧
  (va_Z "java/lang/String" "COMPACT_STRINGS" "Z" (.int 1) (zA G) U H ∧ va_Zq "jdk/internal/util/Preconditions" "SIOOBE_FORMATTER" "Ljava/util/function/BiFunction;" (zA G) U H) ∧
  (∀ q ∈ zNf, va_Nw (.fieldLinkNest q.1 q.2.1 q.2.2.1 q.2.2.2.1 q.2.2.2.2.1 q.2.2.2.2.2) U) ∧ (∀ q ∈ zNm, va_Nw (.methodLinkNest q.1 q.2.1 q.2.2.1 q.2.2.2) U) ∧ va_AO "NestedClips$Show" U ∧ va_AO "NestedClips$Moment" U
theorem zS.moved {G : zG} {s U : State} {H H1 : Heap} (h : zS G s H) (hW : s.WarmedH U.vm) (hq : ∀ a : Nat, a < H.size → ¬ zA G a → H1[a]? = H[a]?) : zS G U H1 := by
  obtain ⟨h1, ⟨h2, h3⟩, ⟨h4, h5⟩, h6, h7, h8, h9⟩ := h
  have hv := hW.alike
  exact ⟨fun i hi => ⟨(va_Z.moved hv (h1 i hi).1).kept hq, (va_T.moved hv (h1 i hi).2).kept hq⟩, ⟨h2.warm hW, (vk_S.moved hv h3).kept hq⟩, ⟨(va_Z.moved hv h4).kept hq, (va_Zq.moved hv h5).kept hq⟩, fun q hq' => va_Nw.warmF hW (h6 q hq'), fun q hq' => va_Nw.warmM hW (h7 q hq'), va_AO.moved hv h8, va_AO.moved hv h9⟩
theorem zS.same {G : zG} {s U : State} {H : Heap} (h : zS G s H) (hv : U.vm = s.vm) : zS G U H := by
  obtain ⟨h1, ⟨h2, h3⟩, ⟨h4, h5⟩, h6, h7, h8, h9⟩ := h
  have ha : s.vm.Alike U.vm := by rw [hv]; exact Vm.Alike.refl _
  exact ⟨fun i hi => ⟨va_Z.moved ha (h1 i hi).1, va_T.moved ha (h1 i hi).2⟩, ⟨h2.same hv, vk_S.moved ha h3⟩, ⟨va_Z.moved ha h4, va_Zq.moved ha h5⟩, fun q hq' => va_Nw.same rfl hv.symm (h6 q hq'), fun q hq' => va_Nw.same rfl hv.symm (h7 q hq'), va_AO.moved ha h8, va_AO.moved ha h9⟩
/-- the world of a state -/
def zWd (G : zG) (n : Nat) (sh : Nat → zSh) (σ : zSt) (U : State) : Prop := U.heap.size = G.2.1 + n ∧ va_P (zD G) zcl (zW G n sh σ) U.heap ∧ va_K (zD G) zcl (zTy G) U ∧ zS G U U.heap
/-- a method's end -/
def zQ (G : zG) (post : zPost) : Array Value → State → Outcome → State → Prop := fun _ st oc t =>
  (∃ (r : Option Value) (n : Nat) (sh : Nat → zSh) (σ : zSt), oc = .returned r ∧ post r n sh σ ∧ t.heap.size = G.2.1 + n ∧ va_P (zD G) zcl (zW G n sh σ) t.heap) ∧ va_F (zA G) st t
def zws (y : MethodName) (M : zM) : List Cond := .code y M.1 M.2.2.1 M.2.2.2.1 :: zT
/-- THE CONTRACT of a method: from the world σ it ends, with 'post' of its answer and the world behind it; calls go at most d deep, at most mc cells of ms slots are made -/
def Gm (G : zG) (y : MethodName) (M : zM) (d mc ms : Nat) (av : List Value) (n : Nat) (sh : Nat → zSh) (σ : zSt) (post : zPost) : Prop :=
  Met G.1 y (zws y M) (zR d mc ms) (va_Pc av (zWd G n sh σ)) (zQ G post) mc ms (zA G)
def zCx (G : zG) (X : zX) (M : zM) (κ : zK) : Prop :=
  X.1.tables.exec = Jvm.exec ∧ X.2.2.2.2.2.2.2.code = M.1 ∧ X.2.2.2.2.2.2.2.maxLocals = M.2.2.1 ∧ X.2.2.1.vm.findClass M.2.1 = some X.2.2.2.1.cls ∧ (∀ w ∈ zT, w.before X.2.2.2.2.1 X.2.2.1 = true) ∧
  X.2.2.2.2.2.2.1.sig.returnType = M.2.2.2.1 ∧ X.2.2.2.2.2.2.1.locks = false ∧ X.2.2.2.2.2.2.1.name = M.2.2.2.2 ∧ va_K (zD G) zcl (zTy G) X.2.2.1 ∧ zS G X.2.2.1 X.2.2.1.heap ∧ G.2.1 ≤ X.2.2.1.heap.size
/-- THE JUDGEMENT within a method: at pc, with these locals and this stack, in the world σ, it comes to an end with 'post' -/
def Go (G : zG) (X : zX) (M : zM) (κ : zK) (n : Nat) (sh : Nat → zSh) (σ : zSt) (pc : Nat) (L : List (Nat × Value)) (st : List Value) (post : zPost) : Prop :=
  zCx G X M κ → ∀ (H : Heap) (locs : List Loc) (ls : Array Slot), X.2.2.1.heap.size + κ.2.1 = G.2.1 + n → va_P (zD G) zcl (zW G n sh σ) H → va_S (zA G) X.2.2.1.heap H locs → lv_has ls M.2.2.1 L →
    W X.1 G.1 X.2.1 (zR κ.1 κ.2.2.2.1 κ.2.2.2.2) X.2.2.1 X.2.2.2.1 X.2.2.2.2.1 X.2.2.2.2.2.1 X.2.2.2.2.2.2.1 X.2.2.2.2.2.2.2 H locs κ.2.1 κ.2.2.1 (MQ X.2.2.2.2.2.1 (zQ G post) X.2.2.2.2.1 X.2.2.1 κ.2.2.2.1 κ.2.2.2.2 (zA G)) (F0 X.2.2.2.1 pc ls st)
/-- the heap's size is known: what the method has made lies behind what was there -/
theorem z_size {G : zG} {n : Nat} {sh : Nat → zSh} {σ : zSt} {p : Program} {l : Launch} {e : Env} {R : Room} {s : State} {m : MethodId} {args : Array Value} {below : List Frame} {meth : Method} {c : Code} {T : State} {H : Heap} {locs : List Loc} {cells slots : Nat} (h1 : s.heap.size + cells = G.2.1 + n) (h2 : va_P (zD G) zcl (zW G n sh σ) H) (h3 : va_S (zA G) s.heap H locs) (hz : G.2.1 ≤ s.heap.size) (hT : T.heap = H) (Xs : Stand p l e R s m args below meth c T locs cells slots) : H.size = G.2.1 + n := by
  have a := Xs.heapSize
  rw [hT] at a
  cases n with
  | zero =>
    have := h3.1
    omega
  | succ k =>
    have b := (h2 k _ (zW_get (Nat.lt_succ_self k))).lt
    dsimp only at b
    omega
end
section
/-! numbers of the machine as integers -/
abbrev zr (a : Int) : Prop := -2147483648 ≤ a ∧ a ≤ 2147483647
abbrev zrl (a : Int) : Prop := -9223372036854775808 ≤ a ∧ a ≤ 9223372036854775807
theorem zi_toInt {a : Int} (h : zr a) : (Int32.ofInt a).toInt = a := Int32.toInt_ofInt_of_le (by omega) (by omega)
theorem zl_toInt {a : Int} (h : zrl a) : (Int64.ofInt a).toInt = a := Int64.toInt_ofInt_of_le (by omega) (by omega)
theorem zi_lt {a b : Int} (ha : zr a) (hb : zr b) : Int32.ofInt a < Int32.ofInt b ↔ a < b := by rw [Int32.lt_iff_toInt_lt, zi_toInt ha, zi_toInt hb]
theorem zi_le {a b : Int} (ha : zr a) (hb : zr b) : Int32.ofInt a ≤ Int32.ofInt b ↔ a ≤ b := by rw [Int32.le_iff_toInt_le, zi_toInt ha, zi_toInt hb]
theorem zi_eq {a b : Int} (ha : zr a) (hb : zr b) : Int32.ofInt a = Int32.ofInt b ↔ a = b := by rw [← Int32.toInt_inj, zi_toInt ha, zi_toInt hb]
theorem zl_lt {a b : Int} (ha : zrl a) (hb : zrl b) : Int64.ofInt a < Int64.ofInt b ↔ a < b := by rw [Int64.lt_iff_toInt_lt, zl_toInt ha, zl_toInt hb]
theorem zl_le {a b : Int} (ha : zrl a) (hb : zrl b) : Int64.ofInt a ≤ Int64.ofInt b ↔ a ≤ b := by rw [Int64.le_iff_toInt_le, zl_toInt ha, zl_toInt hb]
theorem zl_eq {a b : Int} (ha : zrl a) (hb : zrl b) : Int64.ofInt a = Int64.ofInt b ↔ a = b := by rw [← Int64.toInt_inj, zl_toInt ha, zl_toInt hb]
theorem zi_of (x : Int32) : x = Int32.ofInt x.toInt := (Int32.ofInt_toInt x).symm
theorem zi_range (x : Int32) : zr x.toInt := ⟨by have := x.le_toInt; omega, by have := x.toInt_lt; omega⟩
theorem zi_in {i : Int} {j n : Nat} (hi : i = (j : Int)) (hj : j < n) (hn : n < 2147483648) : vp_in (Int32.ofInt i) n := by
  rw [vp_in_iff, zi_toInt ⟨by omega, by omega⟩]
  omega
theorem zi_cl {i : Int} {j : Nat} (hi : i = (j : Int)) (hj : j < 2147483648) : (Int32.ofInt i).toNatClampNeg = j := by
  show (Int32.ofInt i).toInt.toNat = j
  rw [zi_toInt ⟨by omega, by omega⟩]
  omega
theorem zi_nar {ty : FieldType} {a : Int} (h : ty = .int ∨ ty = .boolean ∧ (a = 0 ∨ a = 1)) : narrow ty (vi a) = vi a := by
  rcases h with rfl | ⟨rfl, rfl | rfl⟩ <;> rfl
/-! locals -/
def zget : List (Nat × Value) → Nat → Option Value
  | [], _ => none
  | q :: t, i => if q.1 = i then some q.2 else zget t i
def zput : List (Nat × Value) → Nat → Value → List (Nat × Value)
  | [], i, v => [(i, v)]
  | q :: t, i, v => if q.1 = i then (i, v) :: t else q :: zput t i v
/-- nothing else stands in the way: no long at the place before; for a long nothing at the place behind -/
def zok (L : List (Nat × Value)) (i : Nat) (two : Bool) : Bool := L.all (fun q => q.1 == i || (!(q.1 + 1 == i && q.2.category == 2) && !(two && q.1 == i + 1)))
def znd : List (Nat × Value) → Bool
  | [] => true
  | q :: t => t.all (fun p => !(p.1 == q.1)) && znd t
theorem zget_mem : ∀ {L : List (Nat × Value)} {i : Nat} {v : Value}, zget L i = some v → (i, v) ∈ L
  | [], i, v, h => by cases h
  | q :: t, i, v, h => by
    unfold zget at h
    split at h
    · next hq =>
      cases h
      subst hq
      exact List.mem_cons_self
    · exact List.mem_cons_of_mem _ (zget_mem h)
theorem zget_has {ls : Array Slot} {nL : Nat} {L : List (Nat × Value)} {i : Nat} {v : Value} (h : lv_has ls nL L) (hg : zget L i = some v) : ls[i]? = some (.val v) := h.2.2 (i, v) (zget_mem hg)
theorem zput_mem : ∀ {L : List (Nat × Value)} {i : Nat} {v : Value}, (L.map (·.1)).Nodup → ∀ q ∈ zput L i v, q = (i, v) ∨ (q ∈ L ∧ q.1 ≠ i)
  | [], i, v, _, q, h => by
    rw [zput, List.mem_singleton] at h
    exact Or.inl h
  | p :: t, i, v, hn, q, h => by
    rw [List.map_cons, List.nodup_cons] at hn
    unfold zput at h
    split at h
    · next hp =>
      rcases List.mem_cons.mp h with h | h
      · exact Or.inl h
      · refine Or.inr ⟨List.mem_cons_of_mem _ h, fun e => hn.1 ?_⟩
        rw [hp, ← e]
        exact List.mem_map_of_mem h
    · next hp =>
      rcases List.mem_cons.mp h with h | h
      · subst h
        exact Or.inr ⟨List.mem_cons_self, hp⟩
      · rcases zput_mem hn.2 q h with h | h
        · exact Or.inl h
        · exact Or.inr ⟨List.mem_cons_of_mem _ h.1, h.2⟩
theorem znd_of : ∀ {L : List (Nat × Value)}, znd L = true → (L.map (·.1)).Nodup
  | [], _ => List.nodup_nil
  | q :: t, h => by
    unfold znd at h
    rw [Bool.and_eq_true] at h
    rw [List.map_cons, List.nodup_cons]
    refine ⟨fun hm => ?_, znd_of h.2⟩
    obtain ⟨p, hp, he⟩ := List.mem_map.mp hm
    have := List.all_eq_true.mp h.1 p hp
    simp [he] at this
theorem zput_has1 {ls : Array Slot} {nL : Nat} {L L' : List (Nat × Value)} {i : Nat} {v : Value} (h : lv_has ls nL ((i, v) :: L.filter (fun q => !(q.1 == i) && !(q.1 + 1 == i && q.2.category == 2)))) (hn : znd L = true) (ho : zok L i false = true) (hL : zput L i v = L') : lv_has ls nL L' := by
  refine ⟨h.1, h.2.1, fun q hq => h.2.2 q ?_⟩
  rw [← hL] at hq
  rcases zput_mem (znd_of hn) q hq with e | ⟨h1, h2⟩
  · rw [e]; exact List.mem_cons_self
  · refine List.mem_cons_of_mem _ (List.mem_filter.mpr ⟨h1, ?_⟩)
    have := List.all_eq_true.mp ho q h1
    simp only [Bool.or_eq_true, beq_iff_eq, Bool.and_eq_true] at this
    rcases this with e | e
    · exact absurd e h2
    · simp only [Bool.and_eq_true]
      exact ⟨by simp [h2], e.1⟩
theorem zput_has2 {ls : Array Slot} {nL : Nat} {L L' : List (Nat × Value)} {i : Nat} {v : Value} (h : lv_has ls nL ((i, v) :: L.filter (fun q => !(q.1 == i) && (!(q.1 == i + 1) && !(q.1 + 1 == i && q.2.category == 2))))) (hn : znd L = true) (ho : zok L i true = true) (hL : zput L i v = L') : lv_has ls nL L' := by
  refine ⟨h.1, h.2.1, fun q hq => h.2.2 q ?_⟩
  rw [← hL] at hq
  rcases zput_mem (znd_of hn) q hq with e | ⟨h1, h2⟩
  · rw [e]; exact List.mem_cons_self
  · refine List.mem_cons_of_mem _ (List.mem_filter.mpr ⟨h1, ?_⟩)
    have := List.all_eq_true.mp ho q h1
    simp only [Bool.or_eq_true, beq_iff_eq, Bool.and_eq_true] at this
    rcases this with e | e
    · exact absurd e h2
    · simp only [Bool.and_eq_true]
      refine ⟨by simp [h2], ?_, e.1⟩
      have := e.2
      simpa using this
section GO
variable {G : zG} {X : zX} {M : zM} {κ : zK} {n : Nat} {sh : Nat → zSh} {σ : zSt} {pc : Nat} {L L' : List (Nat × Value)} {st : List Value} {post : zPost}
/-- fewer locals -/
theorem g_less (ks : List Nat) (hl : lv_pick L ks = L') (k : Go G X M κ n sh σ pc L' st post) : Go G X M κ n sh σ pc L st post := fun C H locs ls h1 h2 h3 h4 => k C H locs ls h1 h2 h3 (lv_sub h4 ks hl)
/-- another name for the state -/
theorem g_eq {σ' : zSt} {st' : List Value} (h : Go G X M κ n sh σ' pc L' st' post) (e1 : σ = σ') (e2 : L = L') (e3 : st = st') : Go G X M κ n sh σ pc L st post := by subst e1; subst e2; subst e3; exact h
theorem g_iconst {a : Int} (hd : decode M.1 pc = .ok (.iconst a, 1)) (k : Go G X M κ n sh σ (pc + 1) L (vi a :: st) post) : Go G X M κ n sh σ pc L st post := fun C H locs ls h1 h2 h3 h4 => lv_iconst C.1 C.2.1 hd rfl (k C H locs ls h1 h2 h3 h4)
theorem g_bipush {a : Int} (hd : decode M.1 pc = .ok (.bipush a, 2)) (ha : (Int8.ofInt a).toInt32 = Int32.ofInt a) (k : Go G X M κ n sh σ (pc + 2) L (vi a :: st) post) : Go G X M κ n sh σ pc L st post := fun C H locs ls h1 h2 h3 h4 => lv_bipush C.1 C.2.1 hd ha (k C H locs ls h1 h2 h3 h4)
theorem g_sipush {a : Int} (hd : decode M.1 pc = .ok (.sipush a, 3)) (ha : (Int16.ofInt a).toInt32 = Int32.ofInt a) (k : Go G X M κ n sh σ (pc + 3) L (vi a :: st) post) : Go G X M κ n sh σ pc L st post := fun C H locs ls h1 h2 h3 h4 => lv_sipush C.1 C.2.1 hd ha (k C H locs ls h1 h2 h3 h4)
theorem g_lconst {c : Fin 2} {a : Int} (hd : decode M.1 pc = .ok (.lconst c, 1)) (ha : Int64.ofNat (c : Nat) = Int64.ofInt a) (k : Go G X M κ n sh σ (pc + 1) L (vl a :: st) post) : Go G X M κ n sh σ pc L st post := fun C H locs ls h1 h2 h3 h4 => lv_lconst C.1 C.2.1 hd ha (k C H locs ls h1 h2 h3 h4)
theorem g_ldc2 {x : Nat} {a : Int} {w : Int64} (hd : decode M.1 pc = .ok (.ldc2_w x, 3)) (hw : Cond.constantLong M.2.1 x w ∈ zT) (ha : w = Int64.ofInt a) (k : Go G X M κ n sh σ (pc + 3) L (vl a :: st) post) : Go G X M κ n sh σ pc L st post := fun C H locs ls h1 h2 h3 h4 => by
  subst ha
  exact lv_ldc2 C.1 C.2.1 C.2.2.2.1 (C.2.2.2.2.1 _ hw) hd (k C H locs ls h1 h2 h3 h4)
/-! loads -/
theorem g_iload_n {i : Fin 4} {a : Int} (hd : decode M.1 pc = .ok (.iload_n i, 1)) (hl : zget L i = some (vi a)) (k : Go G X M κ n sh σ (pc + 1) L (vi a :: st) post) : Go G X M κ n sh σ pc L st post := fun C H locs ls h1 h2 h3 h4 => lv_iload_n C.1 C.2.1 hd rfl (zget_has h4 hl) (k C H locs ls h1 h2 h3 h4)
theorem g_iload {i : Nat} {a : Int} (hd : decode M.1 pc = .ok (.iload i, 2)) (hl : zget L i = some (vi a)) (k : Go G X M κ n sh σ (pc + 2) L (vi a :: st) post) : Go G X M κ n sh σ pc L st post := fun C H locs ls h1 h2 h3 h4 => lv_iload C.1 C.2.1 hd (zget_has h4 hl) (k C H locs ls h1 h2 h3 h4)
theorem g_lload_n {i : Fin 4} {a : Int} (hd : decode M.1 pc = .ok (.lload_n i, 1)) (hl : zget L i = some (vl a)) (k : Go G X M κ n sh σ (pc + 1) L (vl a :: st) post) : Go G X M κ n sh σ pc L st post := fun C H locs ls h1 h2 h3 h4 => lv_lload_n C.1 C.2.1 hd rfl (zget_has h4 hl) (k C H locs ls h1 h2 h3 h4)
theorem g_lload {i : Nat} {a : Int} (hd : decode M.1 pc = .ok (.lload i, 2)) (hl : zget L i = some (vl a)) (k : Go G X M κ n sh σ (pc + 2) L (vl a :: st) post) : Go G X M κ n sh σ pc L st post := fun C H locs ls h1 h2 h3 h4 => lv_lload C.1 C.2.1 hd (zget_has h4 hl) (k C H locs ls h1 h2 h3 h4)
theorem g_aload_n {i : Fin 4} {a : Nat} (hd : decode M.1 pc = .ok (.aload_n i, 1)) (hl : zget L i = some (.ref a)) (k : Go G X M κ n sh σ (pc + 1) L (.ref a :: st) post) : Go G X M κ n sh σ pc L st post := fun C H locs ls h1 h2 h3 h4 => lv_aload_n C.1 C.2.1 hd rfl (zget_has h4 hl) (k C H locs ls h1 h2 h3 h4)
theorem g_aload {i : Nat} {a : Nat} (hd : decode M.1 pc = .ok (.aload i, 2)) (hl : zget L i = some (.ref a)) (k : Go G X M κ n sh σ (pc + 2) L (.ref a :: st) post) : Go G X M κ n sh σ pc L st post := fun C H locs ls h1 h2 h3 h4 => lv_aload C.1 C.2.1 hd (zget_has h4 hl) (k C H locs ls h1 h2 h3 h4)
/-! stores: L' is the new list; the two checks are by rfl -/
theorem g_istore_n {i : Fin 4} {a : Int} (hd : decode M.1 pc = .ok (.istore_n i, 1)) (hL : zput L i (vi a) = L') (ho : (znd L && zok L i false && decide ((i : Nat) < M.2.2.1)) = true) (k : Go G X M κ n sh σ (pc + 1) L' st post) : Go G X M κ n sh σ pc L (vi a :: st) post := fun C H locs ls h1 h2 h3 h4 => by
  simp only [Bool.and_eq_true, decide_eq_true_eq] at ho
  exact lv_istore_n C.1 C.2.1 hd rfl h4 ho.2 rfl (fun ls' hl' => k C H locs ls' h1 h2 h3 (zput_has1 hl' ho.1.1 ho.1.2 hL))
theorem g_istore {i : Nat} {a : Int} (hd : decode M.1 pc = .ok (.istore i, 2)) (hL : zput L i (vi a) = L') (ho : (znd L && zok L i false && decide ((i : Nat) < M.2.2.1)) = true) (k : Go G X M κ n sh σ (pc + 2) L' st post) : Go G X M κ n sh σ pc L (vi a :: st) post := fun C H locs ls h1 h2 h3 h4 => by
  simp only [Bool.and_eq_true, decide_eq_true_eq] at ho
  exact lv_istore C.1 C.2.1 hd h4 ho.2 rfl (fun ls' hl' => k C H locs ls' h1 h2 h3 (zput_has1 hl' ho.1.1 ho.1.2 hL))
theorem g_lstore_n {i : Fin 4} {a : Int} (hd : decode M.1 pc = .ok (.lstore_n i, 1)) (hL : zput L i (vl a) = L') (ho : (znd L && zok L i true && decide ((i : Nat) + 1 < M.2.2.1)) = true) (k : Go G X M κ n sh σ (pc + 1) L' st post) : Go G X M κ n sh σ pc L (vl a :: st) post := fun C H locs ls h1 h2 h3 h4 => by
  simp only [Bool.and_eq_true, decide_eq_true_eq] at ho
  exact lv_lstore_n C.1 C.2.1 hd rfl h4 ho.2 rfl (fun ls' hl' => k C H locs ls' h1 h2 h3 (zput_has2 hl' ho.1.1 ho.1.2 hL))
theorem g_lstore {i : Nat} {a : Int} (hd : decode M.1 pc = .ok (.lstore i, 2)) (hL : zput L i (vl a) = L') (ho : (znd L && zok L i true && decide ((i : Nat) + 1 < M.2.2.1)) = true) (k : Go G X M κ n sh σ (pc + 2) L' st post) : Go G X M κ n sh σ pc L (vl a :: st) post := fun C H locs ls h1 h2 h3 h4 => by
  simp only [Bool.and_eq_true, decide_eq_true_eq] at ho
  exact lv_lstore C.1 C.2.1 hd h4 ho.2 rfl (fun ls' hl' => k C H locs ls' h1 h2 h3 (zput_has2 hl' ho.1.1 ho.1.2 hL))
theorem g_astore_n {i : Fin 4} {a : Nat} (hd : decode M.1 pc = .ok (.astore_n i, 1)) (hL : zput L i (.ref a) = L') (ho : (znd L && zok L i false && decide ((i : Nat) < M.2.2.1)) = true) (k : Go G X M κ n sh σ (pc + 1) L' st post) : Go G X M κ n sh σ pc L (.ref a :: st) post := fun C H locs ls h1 h2 h3 h4 => by
  simp only [Bool.and_eq_true, decide_eq_true_eq] at ho
  exact lv_astore_n C.1 C.2.1 hd rfl h4 ho.2 rfl (fun ls' hl' => k C H locs ls' h1 h2 h3 (zput_has1 hl' ho.1.1 ho.1.2 hL))
theorem g_astore {i : Nat} {a : Nat} (hd : decode M.1 pc = .ok (.astore i, 2)) (hL : zput L i (.ref a) = L') (ho : (znd L && zok L i false && decide ((i : Nat) < M.2.2.1)) = true) (k : Go G X M κ n sh σ (pc + 2) L' st post) : Go G X M κ n sh σ pc L (.ref a :: st) post := fun C H locs ls h1 h2 h3 h4 => by
  simp only [Bool.and_eq_true, decide_eq_true_eq] at ho
  exact lv_astore C.1 C.2.1 hd h4 ho.2 rfl (fun ls' hl' => k C H locs ls' h1 h2 h3 (zput_has1 hl' ho.1.1 ho.1.2 hL))
theorem g_iinc {i : Nat} {a b : Int} (hd : decode M.1 pc = .ok (.iinc i b, 3)) (hl : zget L i = some (vi a)) (hL : zput L i (vi (a + b)) = L') (ho : (znd L && zok L i false && decide ((i : Nat) < M.2.2.1)) = true) (k : Go G X M κ n sh σ (pc + 3) L' st post) : Go G X M κ n sh σ pc L st post := fun C H locs ls h1 h2 h3 h4 => by
  simp only [Bool.and_eq_true, decide_eq_true_eq] at ho
  obtain ⟨q, hq⟩ := List.getElem?_of_mem (zget_mem hl)
  exact lv_iinc C.1 C.2.1 hd h4 hq (Int32.ofInt_add _ _).symm ho.2 rfl (fun ls' hl' => k C H locs ls' h1 h2 h3 (zput_has1 hl' ho.1.1 ho.1.2 hL))
/-! the stack -/
theorem g_dup {v : Value} (hd : decode M.1 pc = .ok (.dup, 1)) (hv : v.category = 1) (k : Go G X M κ n sh σ (pc + 1) L (v :: v :: st) post) : Go G X M κ n sh σ pc L (v :: st) post := fun C H locs ls h1 h2 h3 h4 => lv_dup C.1 C.2.1 hd hv (k C H locs ls h1 h2 h3 h4)
theorem g_dup2 {v w : Value} (hd : decode M.1 pc = .ok (.dup2, 1)) (hv : v.category = 1) (hw : w.category = 1) (k : Go G X M κ n sh σ (pc + 1) L (v :: w :: v :: w :: st) post) : Go G X M κ n sh σ pc L (v :: w :: st) post := fun C H locs ls h1 h2 h3 h4 => lv_dup2_11 C.1 C.2.1 hd hv hw (k C H locs ls h1 h2 h3 h4)
theorem g_pop {v : Value} (hd : decode M.1 pc = .ok (.pop, 1)) (hv : v.category = 1) (k : Go G X M κ n sh σ (pc + 1) L st post) : Go G X M κ n sh σ pc L (v :: st) post := fun C H locs ls h1 h2 h3 h4 => lv_pop C.1 C.2.1 hd hv (k C H locs ls h1 h2 h3 h4)
/-! arithmetic -/
theorem g_iadd {a b : Int} (hd : decode M.1 pc = .ok (.iadd, 1)) (k : Go G X M κ n sh σ (pc + 1) L (vi (a + b) :: st) post) : Go G X M κ n sh σ pc L (vi b :: vi a :: st) post := fun C H locs ls h1 h2 h3 h4 => lv_iadd C.1 C.2.1 hd (by rw [← Int32.ofInt_add]; exact k C H locs ls h1 h2 h3 h4)
theorem g_isub {a b : Int} (hd : decode M.1 pc = .ok (.isub, 1)) (k : Go G X M κ n sh σ (pc + 1) L (vi (a - b) :: st) post) : Go G X M κ n sh σ pc L (vi b :: vi a :: st) post := fun C H locs ls h1 h2 h3 h4 => lv_isub C.1 C.2.1 hd (by rw [← Int32.ofInt_sub]; exact k C H locs ls h1 h2 h3 h4)
theorem g_imul {a b : Int} (hd : decode M.1 pc = .ok (.imul, 1)) (k : Go G X M κ n sh σ (pc + 1) L (vi (a * b) :: st) post) : Go G X M κ n sh σ pc L (vi b :: vi a :: st) post := fun C H locs ls h1 h2 h3 h4 => lv_imul C.1 C.2.1 hd (by rw [← Int32.ofInt_mul]; exact k C H locs ls h1 h2 h3 h4)
theorem g_ladd {a b : Int} (hd : decode M.1 pc = .ok (.ladd, 1)) (k : Go G X M κ n sh σ (pc + 1) L (vl (a + b) :: st) post) : Go G X M κ n sh σ pc L (vl b :: vl a :: st) post := fun C H locs ls h1 h2 h3 h4 => lv_ladd C.1 C.2.1 hd (by rw [← Int64.ofInt_add]; exact k C H locs ls h1 h2 h3 h4)
theorem g_lsub {a b : Int} (hd : decode M.1 pc = .ok (.lsub, 1)) (k : Go G X M κ n sh σ (pc + 1) L (vl (a - b) :: st) post) : Go G X M κ n sh σ pc L (vl b :: vl a :: st) post := fun C H locs ls h1 h2 h3 h4 => lv_lsub C.1 C.2.1 hd (by rw [← Int64.ofInt_sub]; exact k C H locs ls h1 h2 h3 h4)
theorem g_lmul {a b : Int} (hd : decode M.1 pc = .ok (.lmul, 1)) (k : Go G X M κ n sh σ (pc + 1) L (vl (a * b) :: st) post) : Go G X M κ n sh σ pc L (vl b :: vl a :: st) post := fun C H locs ls h1 h2 h3 h4 => lv_lmul C.1 C.2.1 hd (by rw [← Int64.ofInt_mul]; exact k C H locs ls h1 h2 h3 h4)
end GO
end
section
/-! numbers, on -/
theorem zi_nat (x : Nat) : Int32.ofInt (x : Int) = nI x := by
  unfold nI
  first | exact Int32.ofInt_eq_ofNat | exact Int32.ofInt_eq_ofNat _ | (apply Int32.toBitVec_inj.mp; simp [Int32.toBitVec_ofInt, Int32.toBitVec_ofNat'])
theorem zl_nat (x : Nat) : Int64.ofInt (x : Int) = lN x := by
  unfold lN
  first | exact Int64.ofInt_eq_ofNat | exact Int64.ofInt_eq_ofNat _ | (apply Int64.toBitVec_inj.mp; simp [Int64.toBitVec_ofInt, Int64.toBitVec_ofNat'])
theorem zi_div {a b : Int} (ha : 0 ≤ a) (ha' : a ≤ 2147483647) (hb : 0 < b) (hb' : b ≤ 2147483647) : Int32.ofInt a / Int32.ofInt b = Int32.ofInt (a / b) := by
  obtain ⟨x, rfl⟩ := Int.eq_ofNat_of_zero_le ha
  obtain ⟨y, rfl⟩ := Int.eq_ofNat_of_zero_le (Int.le_of_lt hb)
  rw [← Int.natCast_ediv, zi_nat, zi_nat, zi_nat]
  exact pk_div (by omega) (by omega) (by omega)
theorem zl_div {a b : Int} (ha : 0 ≤ a) (ha' : a ≤ 9223372036854775807) (hb : 0 < b) (hb' : b ≤ 9223372036854775807) : Int64.ofInt a / Int64.ofInt b = Int64.ofInt (a / b) := by
  obtain ⟨x, rfl⟩ := Int.eq_ofNat_of_zero_le ha
  obtain ⟨y, rfl⟩ := Int.eq_ofNat_of_zero_le (Int.le_of_lt hb)
  rw [← Int.natCast_ediv, zl_nat, zl_nat, zl_nat]
  exact pk_lDiv (by omega) (by omega) (by omega)
theorem zi_ne0 {b : Int} (hb : 0 < b) (hb' : b ≤ 2147483647) : ¬ Int32.ofInt b = 0 := by
  have h : Int32.ofInt 0 = 0 := rfl
  rw [← h, zi_eq ⟨by omega, by omega⟩ ⟨by omega, by omega⟩]
  omega
theorem zl_ne0 {b : Int} (hb : 0 < b) (hb' : b ≤ 9223372036854775807) : ¬ Int64.ofInt b = 0 := by
  have h : Int64.ofInt 0 = 0 := rfl
  rw [← h, zl_eq ⟨by omega, by omega⟩ ⟨by omega, by omega⟩]
  omega
theorem zi_z : Int32.ofInt 0 = 0 := rfl
theorem zl_of_i {a : Int} (h : zr a) : (Int32.ofInt a).toInt64 = Int64.ofInt a := by
  rw [← Int64.toInt_inj, zl_toInt ⟨by omega, by omega⟩, Int32.toInt_toInt64, zi_toInt h]
theorem zi_of_l (a : Int) : (Int64.ofInt a).toInt32 = Int32.ofInt a := by
  first | exact Int64.toInt32_ofInt a | simp
/-- lcmp -/
def zcmp (a b : Int) : Int := if b < a then 1 else if a = b then 0 else -1
theorem zi_cmp {a b : Int} (ha : zrl a) (hb : zrl b) : lg_cmp (Int64.ofInt a) (Int64.ofInt b) = Int32.ofInt (zcmp a b) := by
  unfold lg_cmp zcmp
  simp only [gt_iff_lt, zl_lt hb ha, zl_eq ha hb]
  split
  · rfl
  · split <;> rfl
section GO
variable {G : zG} {X : zX} {M : zM} {κ : zK} {n : Nat} {sh : Nat → zSh} {σ : zSt} {pc : Nat} {L L' : List (Nat × Value)} {st : List Value} {post : zPost}
theorem g_idiv {a b : Int} (hd : decode M.1 pc = .ok (.idiv, 1)) (hr : 0 ≤ a ∧ a ≤ 2147483647 ∧ 0 < b ∧ b ≤ 2147483647) (k : Go G X M κ n sh σ (pc + 1) L (vi (a / b) :: st) post) : Go G X M κ n sh σ pc L (vi b :: vi a :: st) post := fun C H locs ls h1 h2 h3 h4 => lv_idiv C.1 C.2.1 hd (zi_ne0 hr.2.2.1 hr.2.2.2) (by rw [zi_div hr.1 hr.2.1 hr.2.2.1 hr.2.2.2]; exact k C H locs ls h1 h2 h3 h4)
theorem g_irem {a b : Int} (hd : decode M.1 pc = .ok (.irem, 1)) (hr : 0 ≤ a ∧ a ≤ 2147483647 ∧ 0 < b ∧ b ≤ 2147483647) (k : Go G X M κ n sh σ (pc + 1) L (vi (a % b) :: st) post) : Go G X M κ n sh σ pc L (vi b :: vi a :: st) post := fun C H locs ls h1 h2 h3 h4 => lv_irem C.1 C.2.1 hd (zi_ne0 hr.2.2.1 hr.2.2.2) (by
  rw [zi_div hr.1 hr.2.1 hr.2.2.1 hr.2.2.2, ← Int32.ofInt_mul, ← Int32.ofInt_sub, show a - a / b * b = a % b by rw [Int.emod_def, Int.mul_comm]]
  exact k C H locs ls h1 h2 h3 h4)
theorem g_ldiv {a b : Int} (hd : decode M.1 pc = .ok (.ldiv, 1)) (hr : 0 ≤ a ∧ a ≤ 9223372036854775807 ∧ 0 < b ∧ b ≤ 9223372036854775807) (k : Go G X M κ n sh σ (pc + 1) L (vl (a / b) :: st) post) : Go G X M κ n sh σ pc L (vl b :: vl a :: st) post := fun C H locs ls h1 h2 h3 h4 => lv_ldiv C.1 C.2.1 hd (zl_ne0 hr.2.2.1 hr.2.2.2) (by rw [zl_div hr.1 hr.2.1 hr.2.2.1 hr.2.2.2]; exact k C H locs ls h1 h2 h3 h4)
theorem g_lrem {a b : Int} (hd : decode M.1 pc = .ok (.lrem, 1)) (hr : 0 ≤ a ∧ a ≤ 9223372036854775807 ∧ 0 < b ∧ b ≤ 9223372036854775807) (k : Go G X M κ n sh σ (pc + 1) L (vl (a % b) :: st) post) : Go G X M κ n sh σ pc L (vl b :: vl a :: st) post := fun C H locs ls h1 h2 h3 h4 => lv_lrem C.1 C.2.1 hd (zl_ne0 hr.2.2.1 hr.2.2.2) (by
  rw [zl_div hr.1 hr.2.1 hr.2.2.1 hr.2.2.2, ← Int64.ofInt_mul, ← Int64.ofInt_sub, show a - a / b * b = a % b by rw [Int.emod_def, Int.mul_comm]]
  exact k C H locs ls h1 h2 h3 h4)
theorem g_i2l {a : Int} (hd : decode M.1 pc = .ok (.i2l, 1)) (ha : zr a) (k : Go G X M κ n sh σ (pc + 1) L (vl a :: st) post) : Go G X M κ n sh σ pc L (vi a :: st) post := fun C H locs ls h1 h2 h3 h4 => lv_i2l C.1 C.2.1 hd (zl_of_i ha) (k C H locs ls h1 h2 h3 h4)
theorem g_l2i {a : Int} (hd : decode M.1 pc = .ok (.l2i, 1)) (k : Go G X M κ n sh σ (pc + 1) L (vi a :: st) post) : Go G X M κ n sh σ pc L (vl a :: st) post := fun C H locs ls h1 h2 h3 h4 => lv_l2i C.1 C.2.1 hd (zi_of_l a) (k C H locs ls h1 h2 h3 h4)
theorem g_lcmp {a b : Int} (hd : decode M.1 pc = .ok (.lcmp, 1)) (ha : zrl a) (hb : zrl b) (k : Go G X M κ n sh σ (pc + 1) L (vi (zcmp a b) :: st) post) : Go G X M κ n sh σ pc L (vl b :: vl a :: st) post := fun C H locs ls h1 h2 h3 h4 => W.lcmp C.1 C.2.1 hd (by rw [zi_cmp ha hb]; exact k C H locs ls h1 h2 h3 h4)
theorem g_goto {off : Int} {tgt : Nat} (hd : decode M.1 pc = .ok (.goto off, 3)) (ht : (pc : Int) + off = (tgt : Int)) (k : Go G X M κ n sh σ tgt L st post) : Go G X M κ n sh σ pc L st post := fun C H locs ls h1 h2 h3 h4 => lv_goto C.1 C.2.1 hd ht (k C H locs ls h1 h2 h3 h4)
theorem zr0 : zr 0 := ⟨by decide, by decide⟩
theorem g_if_eq {a off : Int} {tgt : Nat} (hd : decode M.1 pc = .ok (.ifCond .eq off, 3)) (ht : (pc : Int) + off = (tgt : Int)) (ha : zr a) (kt : a = 0 → Go G X M κ n sh σ tgt L st post) (kf : a ≠ 0 → Go G X M κ n sh σ (pc + 3) L st post) : Go G X M κ n sh σ pc L (vi a :: st) post := fun C H locs ls h1 h2 h3 h4 => lv_if_eq C.1 C.2.1 hd ht (fun h => kt ((zi_eq ha zr0).mp h) C H locs ls h1 h2 h3 h4) (fun h => kf (fun e => h ((zi_eq ha zr0).mpr e)) C H locs ls h1 h2 h3 h4)
theorem g_if_ne {a off : Int} {tgt : Nat} (hd : decode M.1 pc = .ok (.ifCond .ne off, 3)) (ht : (pc : Int) + off = (tgt : Int)) (ha : zr a) (kt : a ≠ 0 → Go G X M κ n sh σ tgt L st post) (kf : a = 0 → Go G X M κ n sh σ (pc + 3) L st post) : Go G X M κ n sh σ pc L (vi a :: st) post := fun C H locs ls h1 h2 h3 h4 => lv_if_ne C.1 C.2.1 hd ht (fun h => kt (fun e => h ((zi_eq ha zr0).mpr e)) C H locs ls h1 h2 h3 h4) (fun h => kf ((zi_eq ha zr0).mp h) C H locs ls h1 h2 h3 h4)
theorem g_if_lt {a off : Int} {tgt : Nat} (hd : decode M.1 pc = .ok (.ifCond .lt off, 3)) (ht : (pc : Int) + off = (tgt : Int)) (ha : zr a) (kt : a < 0 → Go G X M κ n sh σ tgt L st post) (kf : 0 ≤ a → Go G X M κ n sh σ (pc + 3) L st post) : Go G X M κ n sh σ pc L (vi a :: st) post := fun C H locs ls h1 h2 h3 h4 => lv_if_lt C.1 C.2.1 hd ht (fun h => kt ((zi_lt ha zr0).mp h) C H locs ls h1 h2 h3 h4) (fun h => kf (by have : ¬ (a < 0) := fun e => h ((zi_lt ha zr0).mpr e); omega) C H locs ls h1 h2 h3 h4)
theorem g_if_ge {a off : Int} {tgt : Nat} (hd : decode M.1 pc = .ok (.ifCond .ge off, 3)) (ht : (pc : Int) + off = (tgt : Int)) (ha : zr a) (kt : 0 ≤ a → Go G X M κ n sh σ tgt L st post) (kf : a < 0 → Go G X M κ n sh σ (pc + 3) L st post) : Go G X M κ n sh σ pc L (vi a :: st) post := fun C H locs ls h1 h2 h3 h4 => lv_if_ge C.1 C.2.1 hd ht (fun h => kt ((zi_le zr0 ha).mp h) C H locs ls h1 h2 h3 h4) (fun h => kf (by have : ¬ (0 ≤ a) := fun e => h ((zi_le zr0 ha).mpr e); omega) C H locs ls h1 h2 h3 h4)
theorem g_if_gt {a off : Int} {tgt : Nat} (hd : decode M.1 pc = .ok (.ifCond .gt off, 3)) (ht : (pc : Int) + off = (tgt : Int)) (ha : zr a) (kt : 0 < a → Go G X M κ n sh σ tgt L st post) (kf : a ≤ 0 → Go G X M κ n sh σ (pc + 3) L st post) : Go G X M κ n sh σ pc L (vi a :: st) post := fun C H locs ls h1 h2 h3 h4 => lv_if_gt C.1 C.2.1 hd ht (fun h => kt ((zi_lt zr0 ha).mp h) C H locs ls h1 h2 h3 h4) (fun h => kf (by have : ¬ (0 < a) := fun e => h ((zi_lt zr0 ha).mpr e); omega) C H locs ls h1 h2 h3 h4)
theorem g_if_le {a off : Int} {tgt : Nat} (hd : decode M.1 pc = .ok (.ifCond .le off, 3)) (ht : (pc : Int) + off = (tgt : Int)) (ha : zr a) (kt : a ≤ 0 → Go G X M κ n sh σ tgt L st post) (kf : 0 < a → Go G X M κ n sh σ (pc + 3) L st post) : Go G X M κ n sh σ pc L (vi a :: st) post := fun C H locs ls h1 h2 h3 h4 => lv_if_le C.1 C.2.1 hd ht (fun h => kt ((zi_le ha zr0).mp h) C H locs ls h1 h2 h3 h4) (fun h => kf (by have : ¬ (a ≤ 0) := fun e => h ((zi_le ha zr0).mpr e); omega) C H locs ls h1 h2 h3 h4)
theorem g_icmp_eq {a b off : Int} {tgt : Nat} (hd : decode M.1 pc = .ok (.if_icmp .eq off, 3)) (ht : (pc : Int) + off = (tgt : Int)) (ha : zr a) (hb : zr b) (kt : a = b → Go G X M κ n sh σ tgt L st post) (kf : a ≠ b → Go G X M κ n sh σ (pc + 3) L st post) : Go G X M κ n sh σ pc L (vi b :: vi a :: st) post := fun C H locs ls h1 h2 h3 h4 => lv_icmp_eq C.1 C.2.1 hd ht (fun h => kt ((zi_eq ha hb).mp h) C H locs ls h1 h2 h3 h4) (fun h => kf (fun e => h ((zi_eq ha hb).mpr e)) C H locs ls h1 h2 h3 h4)
theorem g_icmp_ne {a b off : Int} {tgt : Nat} (hd : decode M.1 pc = .ok (.if_icmp .ne off, 3)) (ht : (pc : Int) + off = (tgt : Int)) (ha : zr a) (hb : zr b) (kt : a ≠ b → Go G X M κ n sh σ tgt L st post) (kf : a = b → Go G X M κ n sh σ (pc + 3) L st post) : Go G X M κ n sh σ pc L (vi b :: vi a :: st) post := fun C H locs ls h1 h2 h3 h4 => lv_icmp_ne C.1 C.2.1 hd ht (fun h => kt (fun e => h ((zi_eq ha hb).mpr e)) C H locs ls h1 h2 h3 h4) (fun h => kf ((zi_eq ha hb).mp h) C H locs ls h1 h2 h3 h4)
theorem g_icmp_lt {a b off : Int} {tgt : Nat} (hd : decode M.1 pc = .ok (.if_icmp .lt off, 3)) (ht : (pc : Int) + off = (tgt : Int)) (ha : zr a) (hb : zr b) (kt : a < b → Go G X M κ n sh σ tgt L st post) (kf : b ≤ a → Go G X M κ n sh σ (pc + 3) L st post) : Go G X M κ n sh σ pc L (vi b :: vi a :: st) post := fun C H locs ls h1 h2 h3 h4 => lv_icmp_lt C.1 C.2.1 hd ht (fun h => kt ((zi_lt ha hb).mp h) C H locs ls h1 h2 h3 h4) (fun h => kf (by have : ¬ (a < b) := fun e => h ((zi_lt ha hb).mpr e); omega) C H locs ls h1 h2 h3 h4)
theorem g_icmp_ge {a b off : Int} {tgt : Nat} (hd : decode M.1 pc = .ok (.if_icmp .ge off, 3)) (ht : (pc : Int) + off = (tgt : Int)) (ha : zr a) (hb : zr b) (kt : b ≤ a → Go G X M κ n sh σ tgt L st post) (kf : a < b → Go G X M κ n sh σ (pc + 3) L st post) : Go G X M κ n sh σ pc L (vi b :: vi a :: st) post := fun C H locs ls h1 h2 h3 h4 => lv_icmp_ge C.1 C.2.1 hd ht (fun h => kt ((zi_le hb ha).mp h) C H locs ls h1 h2 h3 h4) (fun h => kf (by have : ¬ (b ≤ a) := fun e => h ((zi_le hb ha).mpr e); omega) C H locs ls h1 h2 h3 h4)
theorem g_icmp_gt {a b off : Int} {tgt : Nat} (hd : decode M.1 pc = .ok (.if_icmp .gt off, 3)) (ht : (pc : Int) + off = (tgt : Int)) (ha : zr a) (hb : zr b) (kt : b < a → Go G X M κ n sh σ tgt L st post) (kf : a ≤ b → Go G X M κ n sh σ (pc + 3) L st post) : Go G X M κ n sh σ pc L (vi b :: vi a :: st) post := fun C H locs ls h1 h2 h3 h4 => lv_icmp_gt C.1 C.2.1 hd ht (fun h => kt ((zi_lt hb ha).mp h) C H locs ls h1 h2 h3 h4) (fun h => kf (by have : ¬ (b < a) := fun e => h ((zi_lt hb ha).mpr e); omega) C H locs ls h1 h2 h3 h4)
theorem g_icmp_le {a b off : Int} {tgt : Nat} (hd : decode M.1 pc = .ok (.if_icmp .le off, 3)) (ht : (pc : Int) + off = (tgt : Int)) (ha : zr a) (hb : zr b) (kt : a ≤ b → Go G X M κ n sh σ tgt L st post) (kf : b < a → Go G X M κ n sh σ (pc + 3) L st post) : Go G X M κ n sh σ pc L (vi b :: vi a :: st) post := fun C H locs ls h1 h2 h3 h4 => lv_icmp_le C.1 C.2.1 hd ht (fun h => kt ((zi_le ha hb).mp h) C H locs ls h1 h2 h3 h4) (fun h => kf (by have : ¬ (a ≤ b) := fun e => h ((zi_le ha hb).mpr e); omega) C H locs ls h1 h2 h3 h4)
theorem g_tableIn {dflt lo hi : Int} {offs : Array Int} {len : Nat} {a off : Int} {tgt : Nat} (hd : decode M.1 pc = .ok (.tableswitch dflt lo hi offs, len)) (ha : zr a) (h1 : lo ≤ a) (h2 : a ≤ hi) (ho : offs[(a - lo).toNat]? = some off) (ht : (pc : Int) + off = (tgt : Int)) (k : Go G X M κ n sh σ tgt L st post) : Go G X M κ n sh σ pc L (vi a :: st) post := fun C H locs ls q1 q2 q3 q4 => lv_tableIn C.1 C.2.1 hd (by rw [zi_toInt ha]; omega) (by rw [zi_toInt ha]; omega) (by rw [zi_toInt ha]; exact ho) ht (k C H locs ls q1 q2 q3 q4)
theorem g_tableOut {dflt lo hi : Int} {offs : Array Int} {len : Nat} {a : Int} {tgt : Nat} (hd : decode M.1 pc = .ok (.tableswitch dflt lo hi offs, len)) (ha : zr a) (h : a < lo ∨ hi < a) (ht : (pc : Int) + dflt = (tgt : Int)) (k : Go G X M κ n sh σ tgt L st post) : Go G X M κ n sh σ pc L (vi a :: st) post := fun C H locs ls q1 q2 q3 q4 => lv_tableOut C.1 C.2.1 hd (by rw [zi_toInt ha]; exact h) ht (k C H locs ls q1 q2 q3 q4)
theorem g_lookup {dflt : Int} {ps : Array (Int × Int)} {len : Nat} {a off : Int} {tgt : Nat} (hd : decode M.1 pc = .ok (.lookupswitch dflt ps, len)) (hp : (ps.toList.zip (ps.toList.drop 1)).all (fun (a, next) => a.1 < next.1) = true) (ha : zr a) (ho : Op.lookupswitch.offset ps.toList dflt a = off) (ht : (pc : Int) + off = (tgt : Int)) (k : Go G X M κ n sh σ tgt L st post) : Go G X M κ n sh σ pc L (vi a :: st) post := fun C H locs ls q1 q2 q3 q4 => lv_lookup C.1 C.2.1 hd hp (by rw [zi_toInt ha]; exact ho) ht (k C H locs ls q1 q2 q3 q4)
end GO
end
section
/-! FIELDS, ARRAYS, RETURNS, CALLS -/
/-- a class of the list, and what the tables say of its fields -/
def zFO (ci : Nat) (C : String) (T : u_T) (N : Nat) (ty : Nat → FieldType) : Prop := zcl[ci]? = some (C, T, N) ∧ (∀ w ∈ u_ws C T N, w ∈ zT) ∧ (∀ k, k < N → parseFieldDescriptor (T k).2.2.1 = some (ty k)) ∧ ∀ a, a < N → ∀ b, b < N → a ≠ b → (T a).2.1 ≠ (T b).2.1
/-- entry x of own's pool is field j of class ci -/
def zFL (own : String) (x ci j : Nat) (fin : Bool) (t : FieldType) : Prop := ∃ (C : String) (T : u_T) (N : Nat) (ty : Nat → FieldType), zFO ci C T N ty ∧ j < N ∧ Cond.fieldLink own x (T j).1 (T j).2.1 (T j).2.2.1 ∈ zT ∧ (T j).2.2.2 = fin ∧ ty j = t ∧ (T j).1 = C
theorem zFld_other {G : zG} {τ : Nat → Int} {j i : Nat} {a : Int} (t : Option Nat ⊕ FieldType) (h : i ≠ j) : zFld G (zu τ j a) i t = zFld G τ i t := by
  unfold zFld
  rw [zu_ne h]
theorem zE_set {G : zG} {fl : List (Option Nat ⊕ FieldType)} {τ : Nat → Int} {j : Nat} {a : Int} {t : Option Nat ⊕ FieldType} {v : Value} (hj : fl[j]? = some t) (hv : zFld G (zu τ j a) j t = v) : (fl.mapIdx (zFld G τ)).set j v = fl.mapIdx (zFld G (zu τ j a)) := by
  apply List.ext_getElem?
  intro i
  rw [List.getElem?_set, List.length_mapIdx, List.getElem?_mapIdx, List.getElem?_mapIdx]
  by_cases hi : j = i
  · subst hi
    rw [if_pos rfl, if_pos (List.getElem?_eq_some_iff.mp hj).1, hj, Option.map_some, hv]
  · rw [if_neg hi]
    cases fl[i]? with
    | none => rfl
    | some t => rw [Option.map_some, Option.map_some, zFld_other t (fun e => hi e.symm)]
theorem zi_narB {a : Int} (h : -128 ≤ a ∧ a ≤ 127) : vp_nar .byte (Int32.ofInt a) = Int32.ofInt a := by
  rw [vp_nar_byte, ← Int32.toInt_inj, Int8.toInt_toInt32, Int32.toInt_toInt8, zi_toInt ⟨by omega, by omega⟩]
  exact Int.bmod_eq_of_le (by omega) (by omega)
theorem zi_narZ {a : Int} (h : a = 0 ∨ a = 1) : vp_nar .boolean (Int32.ofInt a) = Int32.ofInt a := by
  rcases h with rfl | rfl <;> rfl
theorem zi_b (a : Int) : (Int32.ofInt a).toInt8.toInt32 = Int32.ofInt (a.bmod 256) := by
  have h1 := Int.le_bmod (x := a) (m := 256) (by decide)
  have h2 := Int.bmod_lt (x := a) (m := 256) (by decide)
  rw [← Int32.toInt_inj, Int8.toInt_toInt32, Int32.toInt_toInt8, Int32.toInt_ofInt, zi_toInt ⟨by omega, by omega⟩]
  first | exact Int.bmod_bmod_of_dvd (by decide) | simp
section GO
variable {G : zG} {X : zX} {M : zM} {κ : zK} {n : Nat} {sh : Nat → zSh} {σ : zSt} {pc : Nat} {L L' : List (Nat × Value)} {st : List Value} {post : zPost}
theorem g_get {x ci j k : Nat} {fin : Bool} {ty : FieldType} {fl : List (Option Nat ⊕ FieldType)} {t : Option Nat ⊕ FieldType} (hf : zFL M.2.1 x ci j fin ty) (hd : decode M.1 pc = .ok (.getfield x, 3)) (hk : k < n) (hs : sh k = .inl (ci, fl)) (hj : fl[j]? = some t) (kk : Go G X M κ n sh σ (pc + 3) L (zFld G (σ k) j t :: st) post) : Go G X M κ n sh σ pc L (vr G k :: st) post := fun C H locs ls h1 h2 h3 h4 => by
  obtain ⟨CC, T, N, tyf, ⟨f1, f2, f3, f4⟩, hN, hlk, -, -, -⟩ := hf
  exact va_get (D := zD G) (ci := ci) (v := zFld G (σ k) j t) C.1 C.2.1 C.2.2.2.2.1 f2 C.2.2.2.1 C.2.2.2.2.2.2.2.2.1 h2 k (by rw [zW_get hk, hs]; rfl) f1 j hN (C.2.2.2.2.1 _ hlk) (fun _ h9 => h9) (by rw [List.getElem?_mapIdx, hj]; rfl) hd (kk C H locs ls h1 h2 h3 h4)
theorem g_geti {x ci j k : Nat} {fin : Bool} {ty : FieldType} {fl : List (Option Nat ⊕ FieldType)} (hf : zFL M.2.1 x ci j fin ty) (hd : decode M.1 pc = .ok (.getfield x, 3)) (hk : k < n) (hs : sh k = .inl (ci, fl)) (hj : fl[j]? = some (.inr .int)) (kk : Go G X M κ n sh σ (pc + 3) L (vi (σ k j) :: st) post) : Go G X M κ n sh σ pc L (vr G k :: st) post := g_get hf hd hk hs hj kk
theorem g_getl {x ci j k : Nat} {fin : Bool} {ty : FieldType} {fl : List (Option Nat ⊕ FieldType)} (hf : zFL M.2.1 x ci j fin ty) (hd : decode M.1 pc = .ok (.getfield x, 3)) (hk : k < n) (hs : sh k = .inl (ci, fl)) (hj : fl[j]? = some (.inr .long)) (kk : Go G X M κ n sh σ (pc + 3) L (vl (σ k j) :: st) post) : Go G X M κ n sh σ pc L (vr G k :: st) post := g_get hf hd hk hs hj kk
theorem g_getr {x ci j k q : Nat} {fin : Bool} {ty : FieldType} {fl : List (Option Nat ⊕ FieldType)} (hf : zFL M.2.1 x ci j fin ty) (hd : decode M.1 pc = .ok (.getfield x, 3)) (hk : k < n) (hs : sh k = .inl (ci, fl)) (hj : fl[j]? = some (.inl (some q))) (kk : Go G X M κ n sh σ (pc + 3) L (vr G q :: st) post) : Go G X M κ n sh σ pc L (vr G k :: st) post := g_get hf hd hk hs hj kk
/-- a number into a field that isn't final -/
theorem g_put {x ci j k : Nat} {ty : FieldType} {fl : List (Option Nat ⊕ FieldType)} {t : Option Nat ⊕ FieldType} {a : Int} {v : Value} (hf : zFL M.2.1 x ci j false ty) (hd : decode M.1 pc = .ok (.putfield x, 3)) (hk : k < n) (hs : sh k = .inl (ci, fl)) (hj : fl[j]? = some t) (hv : zFld G (zu (σ k) j a) j t = v) (hn : narrow ty v = v) (hfit : fits ty v = true) (kk : Go G X M κ n sh (zs σ k j a) (pc + 3) L st post) : Go G X M κ n sh σ pc L (v :: vr G k :: st) post := fun C H locs ls h1 h2 h3 h4 => by
  obtain ⟨CC, T, N, tyf, ⟨f1, f2, f3, f4⟩, hN, hlk, hfin, hty, -⟩ := hf
  have hD := zW_D G n sh σ
  have hj' : j < (fl.mapIdx (zFld G (σ k))).length := by rw [List.length_mapIdx]; exact (List.getElem?_eq_some_iff.mp hj).1
  refine va_put (D := zD G) (ci := ci) (v := v) (ty := ty) C.1 C.2.1 C.2.2.2.2.1 f2 tyf f3 f4 C.2.2.2.1 C.2.2.2.2.2.2.2.2.1 h2 hD h3 k (fs := fl.mapIdx (zFld G (σ k))) (by rw [zW_get hk, hs]; rfl) f1 j hN (C.2.2.2.2.1 _ hlk) (fun _ h9 => h9) hfin (by rw [f3 j hN, hty]) hn hfit hj' hd (fun H1 locs1 hP hD1 hS1 => ?_)
  have e : (zW G n sh σ).set k (G.2.1 + k, .inr (ci, (fl.mapIdx (zFld G (σ k))).set j v)) = zW G n sh (zs σ k j a) := by
    refine zW_set hk ?_ (fun _ _ => rfl) (fun i hi => zs_other hi)
    rw [hs, zs_row, zE_set hj hv]; rfl
  rw [e] at hP
  exact kk C H1 locs1 ls h1 hP hS1 h4
theorem g_puti {x ci j k : Nat} {fl : List (Option Nat ⊕ FieldType)} {a : Int} (hf : zFL M.2.1 x ci j false .int) (hd : decode M.1 pc = .ok (.putfield x, 3)) (hk : k < n) (hs : sh k = .inl (ci, fl)) (hj : fl[j]? = some (.inr .int)) (kk : Go G X M κ n sh (zs σ k j a) (pc + 3) L st post) : Go G X M κ n sh σ pc L (vi a :: vr G k :: st) post := g_put hf hd hk hs hj (by show vi (zu (σ k) j a j) = vi a; rw [zu_eq]) rfl rfl kk
theorem g_putl {x ci j k : Nat} {fl : List (Option Nat ⊕ FieldType)} {a : Int} (hf : zFL M.2.1 x ci j false .long) (hd : decode M.1 pc = .ok (.putfield x, 3)) (hk : k < n) (hs : sh k = .inl (ci, fl)) (hj : fl[j]? = some (.inr .long)) (kk : Go G X M κ n sh (zs σ k j a) (pc + 3) L st post) : Go G X M κ n sh σ pc L (vl a :: vr G k :: st) post := g_put hf hd hk hs hj (by show vl (zu (σ k) j a j) = vl a; rw [zu_eq]) rfl rfl kk
/-! arrays -/
theorem g_iald {k m j : Nat} {i : Int} {g : Nat → Option Nat} (hd : decode M.1 pc = .ok (.iaload, 1)) (hk : k < n) (hs : sh k = .inr (0, m, g)) (hi : i = (j : Int)) (hj : j < m) (hm : m < 2147483648) (kk : Go G X M κ n sh σ (pc + 1) L (vi (σ k j) :: st) post) : Go G X M κ n sh σ pc L (vi i :: vr G k :: st) post := fun C H locs ls h1 h2 h3 h4 => by
  refine va_iald C.1 C.2.1 C.2.2.2.2.2.2.2.2.1 h2 k 0 (f := fun i => Int32.ofInt (σ k i)) (by rw [zW_get hk, hs]; rfl) rfl (zi_in hi hj hm) hd ?_
  rw [zi_cl hi (by omega)]
  exact kk C H locs ls h1 h2 h3 h4
theorem g_bald {k m j : Nat} {i : Int} {g : Nat → Option Nat} (hd : decode M.1 pc = .ok (.baload, 1)) (hk : k < n) (hs : sh k = .inr (2, m, g)) (hi : i = (j : Int)) (hj : j < m) (hm : m < 2147483648) (kk : Go G X M κ n sh σ (pc + 1) L (vi (σ k j) :: st) post) : Go G X M κ n sh σ pc L (vi i :: vr G k :: st) post := fun C H locs ls h1 h2 h3 h4 => by
  refine va_bald C.1 C.2.1 C.2.2.2.2.2.2.2.2.1 h2 k 2 (f := fun i => Int32.ofInt (σ k i)) (by rw [zW_get hk, hs]; rfl) rfl (zi_in hi hj hm) hd ?_
  rw [zi_cl hi (by omega)]
  exact kk C H locs ls h1 h2 h3 h4
theorem g_zald {k m j : Nat} {i : Int} {g : Nat → Option Nat} (hd : decode M.1 pc = .ok (.baload, 1)) (hk : k < n) (hs : sh k = .inr (3, m, g)) (hi : i = (j : Int)) (hj : j < m) (hm : m < 2147483648) (kk : Go G X M κ n sh σ (pc + 1) L (vi (σ k j) :: st) post) : Go G X M κ n sh σ pc L (vi i :: vr G k :: st) post := fun C H locs ls h1 h2 h3 h4 => by
  refine va_zald C.1 C.2.1 C.2.2.2.2.2.2.2.2.1 h2 k 3 (f := fun i => Int32.ofInt (σ k i)) (by rw [zW_get hk, hs]; rfl) rfl (zi_in hi hj hm) hd ?_
  rw [zi_cl hi (by omega)]
  exact kk C H locs ls h1 h2 h3 h4
theorem g_lald {k m j : Nat} {i : Int} {g : Nat → Option Nat} (hd : decode M.1 pc = .ok (.laload, 1)) (hk : k < n) (hs : sh k = .inr (1, m, g)) (hi : i = (j : Int)) (hj : j < m) (hm : m < 2147483648) (kk : Go G X M κ n sh σ (pc + 1) L (vl (σ k j) :: st) post) : Go G X M κ n sh σ pc L (vi i :: vr G k :: st) post := fun C H locs ls h1 h2 h3 h4 => by
  refine va_lald C.1 C.2.1 C.2.2.2.2.2.2.2.2.1 h2 k 1 (f := fun i => Int64.ofInt (σ k i)) (by rw [zW_get hk, hs]; rfl) rfl (zi_in hi hj hm) hd ?_
  rw [zi_cl hi (by omega)]
  exact kk C H locs ls h1 h2 h3 h4
theorem g_aald {k m j q : Nat} {i : Int} {g : Nat → Option Nat} {t : Nat} {CN : String} (hd : decode M.1 pc = .ok (.aaload, 1)) (hk : k < n) (hs : sh k = .inr (t, m, g)) (ht : t = 4 ∨ t = 5) (hi : i = (j : Int)) (hj : j < m) (hm : m < 2147483648) (hq : g j = some q) (kk : Go G X M κ n sh σ (pc + 1) L (vr G q :: st) post) : Go G X M κ n sh σ pc L (vi i :: vr G k :: st) post := fun C H locs ls h1 h2 h3 h4 => by
  rcases ht with rfl | rfl
  · refine va_aldq C.1 C.2.1 C.2.2.2.2.2.2.2.2.1 h2 k 4 (C := "NestedClips$Show") (f := fun i => (g i).map (fun k => G.2.1 + k)) (by rw [zW_get hk, hs]; rfl) rfl (zi_in hi hj hm) hd ?_
    rw [zi_cl hi (by omega), hq]
    exact kk C H locs ls h1 h2 h3 h4
  · refine va_aldq C.1 C.2.1 C.2.2.2.2.2.2.2.2.1 h2 k 5 (C := "NestedClips$Moment") (f := fun i => (g i).map (fun k => G.2.1 + k)) (by rw [zW_get hk, hs]; rfl) rfl (zi_in hi hj hm) hd ?_
    rw [zi_cl hi (by omega), hq]
    exact kk C H locs ls h1 h2 h3 h4
theorem g_alen {k m t : Nat} {g : Nat → Option Nat} (hd : decode M.1 pc = .ok (.arraylength, 1)) (hk : k < n) (hs : sh k = .inr (t, m, g)) (ht : t < 6) (kk : Go G X M κ n sh σ (pc + 1) L (vi (m : Int) :: st) post) : Go G X M κ n sh σ pc L (vr G k :: st) post := fun C H locs ls h1 h2 h3 h4 => by
  obtain ⟨ty, hty⟩ : ∃ ty, (zTy G)[t]? = some (G.2.2.2.2.1 t, ty) := by
    rcases (by omega : t = 0 ∨ t = 1 ∨ t = 2 ∨ t = 3 ∨ t = 4 ∨ t = 5) with rfl | rfl | rfl | rfl | rfl | rfl <;> exact ⟨_, rfl⟩
  refine va_alen C.1 C.2.1 C.2.2.2.2.2.2.2.2.1 h2 k t (x := (m, _)) (by rw [zW_get hk, hs]; rfl) hty (v := Int32.ofInt (m : Int)) (by rw [zi_nat]; rfl) hd ?_
  exact kk C H locs ls h1 h2 h3 h4
theorem zcell_int {G : zG} {m j : Nat} {g : Nat → Option Nat} {τ : Nat → Int} {a : Int} {t : Nat} (ht : t = 0 ∨ t = 2 ∨ t = 3) : (.inl (G.2.2.2.2.1 t, m, .inl (upd (fun i => Int32.ofInt (τ i)) j (Int32.ofInt a))) : va_E) = zE G (.inr (t, m, g)) (zu τ j a) := by
  have e : upd (fun i => Int32.ofInt (τ i)) j (Int32.ofInt a) = fun i => Int32.ofInt (zu τ j a i) := by
    funext i
    unfold upd zu
    split <;> rfl
  rw [e]
  rcases ht with rfl | rfl | rfl <;> rfl
theorem zcell_long {G : zG} {m j : Nat} {g : Nat → Option Nat} {τ : Nat → Int} {a : Int} : (.inl (G.2.2.2.2.1 1, m, .inr (.inl (vp_updL (fun i => Int64.ofInt (τ i)) j (Int64.ofInt a)))) : va_E) = zE G (.inr (1, m, g)) (zu τ j a) := by
  have e : vp_updL (fun i => Int64.ofInt (τ i)) j (Int64.ofInt a) = fun i => Int64.ofInt (zu τ j a i) := by
    funext i
    unfold vp_updL zu
    split <;> rfl
  rw [e]
  rfl
theorem zW_put {k j : Nat} {a : Int} {e : va_E} (hk : k < n) (he : e = zE G (sh k) (zu (σ k) j a)) : (zW G n sh σ).set k (G.2.1 + k, e) = zW G n sh (zs σ k j a) := zW_set hk (by rw [zs_row]; exact he) (fun _ _ => rfl) (fun i hi => zs_other hi)
theorem g_iast {k m j : Nat} {i a : Int} {g : Nat → Option Nat} (hd : decode M.1 pc = .ok (.iastore, 1)) (hk : k < n) (hs : sh k = .inr (0, m, g)) (hi : i = (j : Int)) (hj : j < m) (hm : m < 2147483648) (kk : Go G X M κ n sh (zs σ k j a) (pc + 1) L st post) : Go G X M κ n sh σ pc L (vi a :: vi i :: vr G k :: st) post := fun C H locs ls h1 h2 h3 h4 => by
  refine va_iast C.1 C.2.1 C.2.2.2.2.2.2.2.2.1 h2 (zW_D G n sh σ) h3 k 0 (f := fun i => Int32.ofInt (σ k i)) (by rw [zW_get hk, hs]; rfl) rfl (zi_in hi hj hm) hd (fun H1 locs1 hP _ hS1 => ?_)
  rw [zi_cl hi (by omega), zW_put hk (by rw [hs]; exact zcell_int (Or.inl rfl))] at hP
  exact kk C H1 locs1 ls h1 hP hS1 h4
theorem g_bast {k m j : Nat} {i a : Int} {g : Nat → Option Nat} (hd : decode M.1 pc = .ok (.bastore, 1)) (hk : k < n) (hs : sh k = .inr (2, m, g)) (hi : i = (j : Int)) (hj : j < m) (hm : m < 2147483648) (ha : -128 ≤ a ∧ a ≤ 127) (kk : Go G X M κ n sh (zs σ k j a) (pc + 1) L st post) : Go G X M κ n sh σ pc L (vi a :: vi i :: vr G k :: st) post := fun C H locs ls h1 h2 h3 h4 => by
  refine va_bast C.1 C.2.1 C.2.2.2.2.2.2.2.2.1 h2 (zW_D G n sh σ) h3 k 2 (f := fun i => Int32.ofInt (σ k i)) (by rw [zW_get hk, hs]; rfl) rfl (zi_in hi hj hm) hd (fun H1 locs1 hP _ hS1 => ?_)
  rw [zi_cl hi (by omega), zi_narB ha, zW_put hk (by rw [hs]; exact zcell_int (Or.inr (Or.inl rfl)))] at hP
  exact kk C H1 locs1 ls h1 hP hS1 h4
theorem g_zast {k m j : Nat} {i a : Int} {g : Nat → Option Nat} (hd : decode M.1 pc = .ok (.bastore, 1)) (hk : k < n) (hs : sh k = .inr (3, m, g)) (hi : i = (j : Int)) (hj : j < m) (hm : m < 2147483648) (ha : a = 0 ∨ a = 1) (kk : Go G X M κ n sh (zs σ k j a) (pc + 1) L st post) : Go G X M κ n sh σ pc L (vi a :: vi i :: vr G k :: st) post := fun C H locs ls h1 h2 h3 h4 => by
  refine va_zast C.1 C.2.1 C.2.2.2.2.2.2.2.2.1 h2 (zW_D G n sh σ) h3 k 3 (f := fun i => Int32.ofInt (σ k i)) (by rw [zW_get hk, hs]; rfl) rfl (zi_in hi hj hm) hd (fun H1 locs1 hP _ hS1 => ?_)
  rw [zi_cl hi (by omega), zi_narZ ha, zW_put hk (by rw [hs]; exact zcell_int (Or.inr (Or.inr rfl)))] at hP
  exact kk C H1 locs1 ls h1 hP hS1 h4
theorem g_last {k m j : Nat} {i a : Int} {g : Nat → Option Nat} (hd : decode M.1 pc = .ok (.lastore, 1)) (hk : k < n) (hs : sh k = .inr (1, m, g)) (hi : i = (j : Int)) (hj : j < m) (hm : m < 2147483648) (kk : Go G X M κ n sh (zs σ k j a) (pc + 1) L st post) : Go G X M κ n sh σ pc L (vl a :: vi i :: vr G k :: st) post := fun C H locs ls h1 h2 h3 h4 => by
  refine va_last C.1 C.2.1 C.2.2.2.2.2.2.2.2.1 h2 (zW_D G n sh σ) h3 k 1 (f := fun i => Int64.ofInt (σ k i)) (by rw [zW_get hk, hs]; rfl) rfl (zi_in hi hj hm) hd (fun H1 locs1 hP _ hS1 => ?_)
  rw [zi_cl hi (by omega), zW_put hk (by rw [hs]; exact zcell_long)] at hP
  exact kk C H1 locs1 ls h1 hP hS1 h4
theorem g_i2b {a : Int} (hd : decode M.1 pc = .ok (.i2b, 1)) (k : Go G X M κ n sh σ (pc + 1) L (vi (a.bmod 256) :: st) post) : Go G X M κ n sh σ pc L (vi a :: st) post := fun C H locs ls h1 h2 h3 h4 => lv_i2b C.1 C.2.1 hd (zi_b a) (k C H locs ls h1 h2 h3 h4)
/-! statics -/
theorem g_gets {x : Nat} (i : Nat) (hi : i < 4) (hd : decode M.1 pc = .ok (.getstatic x, 3)) (hl : Cond.fieldLink M.2.1 x (zTn i).1 (zTn i).2 "[I" ∈ zT) (k : Go G X M κ n sh σ (pc + 3) L (.ref (G.2.2.2.2.2 i) :: st) post) : Go G X M κ n sh σ pc L st post := fun C H locs ls h1 h2 h3 h4 => va_gets C.1 C.2.1 (C.2.2.2.2.2.2.2.2.2.1.1 i hi).1 h3 C.2.2.2.1 (C.2.2.2.2.1 _ hl) (fun _ h9 => h9) hd (k C H locs ls h1 h2 h3 h4)
theorem g_getsN {x : Nat} (i : Nat) (hi : i < 4) (hd : decode M.1 pc = .ok (.getstatic x, 3)) (hl : (M.2.1, x, (zTn i).1, (zTn i).2, "[I", "NestedClips") ∈ zNf) (k : Go G X M κ n sh σ (pc + 3) L (.ref (G.2.2.2.2.2 i) :: st) post) : Go G X M κ n sh σ pc L st post := fun C H locs ls h1 h2 h3 h4 => va_getsN C.1 C.2.1 (C.2.2.2.2.2.2.2.2.2.1.1 i hi).1 h3 C.2.2.2.1 (va_Nw.use rfl (C.2.2.2.2.2.2.2.2.2.1.2.2.2.1 _ hl)) (fun _ h9 => h9) hd (k C H locs ls h1 h2 h3 h4)
theorem g_tald (i : Nat) (hi : i < 4) {j : Nat} {a : Int} (hd : decode M.1 pc = .ok (.iaload, 1)) (ha : a = (j : Int)) (hj : j < zTl i) (k : Go G X M κ n sh σ (pc + 1) L (vi (zTab i j) :: st) post) : Go G X M κ n sh σ pc L (vi a :: .ref (G.2.2.2.2.2 i) :: st) post := fun C H locs ls h1 h2 h3 h4 => by
  have hz : zTl i ≤ 9 := by unfold zTl; split <;> omega
  exact va_ti C.1 C.2.1 (C.2.2.2.2.2.2.2.2.2.1.1 i hi).2 h3 (zi_in ha hj (by omega)) (by rw [zi_cl ha (by omega)]) hd (k C H locs ls h1 h2 h3 h4)
theorem g_tlen (i : Nat) (hi : i < 4) (hd : decode M.1 pc = .ok (.arraylength, 1)) (k : Go G X M κ n sh σ (pc + 1) L (vi (zTl i : Int) :: st) post) : Go G X M κ n sh σ pc L (.ref (G.2.2.2.2.2 i) :: st) post := fun C H locs ls h1 h2 h3 h4 => va_tlen C.1 C.2.1 (C.2.2.2.2.2.2.2.2.2.1.1 i hi).2 h3 (by rw [zi_nat]; rfl) hd (k C H locs ls h1 h2 h3 h4)
end GO
end
section
/-! RETURNS, CALLS, A METHOD'S BEGINNING -/
theorem zT_in : ∀ w ∈ zT, goodWord w = true := fun _ h => (List.mem_filter.mp h).2
/-- a callee: its words -/
def zCal (y : MethodName) (M : zM) (na : Nat) : Prop := Cond.code y M.1 M.2.2.1 M.2.2.2.1 ∈ zT ∧ Cond.initialized y.cls ∈ zT ∧ (y.cls ≠ "java/lang/invoke/MethodHandle" ∧ y.cls ≠ "java/lang/invoke/VarHandle" ∧ (parseMethodDescriptor y.desc).map (fun d => d.parameters.length) = some na) ∧ M.2.2.1 ≤ 45
def zCalV (y : MethodName) (M : zM) (na : Nat) : Prop := zCal y M na ∧ Cond.instanceMethod y ∈ zT ∧ Cond.selects y.cls y y ∈ zT
def zCalS (y : MethodName) (M : zM) (na : Nat) : Prop := zCal y M na ∧ Cond.static y ∈ zT
def zCalI (y : MethodName) (M : zM) (na : Nat) : Prop := zCal y M na ∧ Cond.instanceMethod y ∈ zT ∧ y.name = "<init>" ∧ M.2.2.2.1 = none
theorem zws_good {y : MethodName} {M : zM} (h : Cond.code y M.1 M.2.2.1 M.2.2.2.1 ∈ zT) : GoodIn zT (zws y M) := by
  intro w hw
  rcases List.mem_cons.mp hw with e | e
  · subst e
    exact ⟨h, good_of_word (zT_in _ h)⟩
  · exact ⟨e, good_of_word (zT_in _ e)⟩
theorem zWd_blind (G : zG) (n : Nat) (sh : Nat → zSh) (σ : zSt) (av : List Value) : FrameBlind (va_Pc av (zWd G n sh σ)) := by
  intro a U g mk h
  obtain ⟨h0, h1, h2, h3, h4⟩ := h
  exact ⟨h0, h1, h2, va_K.moved (u := U) (U := U.calling g mk a) (Vm.Alike.refl U.vm) h3, h4.same rfl⟩
section GO
variable {G : zG} {X : zX} {M : zM} {κ : zK} {n : Nat} {sh : Nat → zSh} {σ : zSt} {pc : Nat} {L L' : List (Nat × Value)} {st : List Value} {post : zPost}
theorem zQ_of {C : zCx G X M κ} {H : Heap} {locs : List Loc} {r : Option Value} (hsz : H.size = G.2.1 + n) (h2 : va_P (zD G) zcl (zW G n sh σ) H) (h3 : va_S (zA G) X.2.2.1.heap H locs) (hp : post r n sh σ) : ∀ t : State, t.heap = H → X.2.2.1.WarmedH t.vm → zQ G post X.2.2.2.2.1 X.2.2.1 (.returned r) t := fun t ht _ => ⟨⟨r, n, sh, σ, rfl, hp, by rw [ht]; exact hsz, by rw [ht]; exact h2⟩, h3.F ht⟩
theorem g_iret {a : Int} {ty : FieldType} (hd : decode M.1 pc = .ok (.ireturn, 1)) (hr : M.2.2.2.1 = some ty) (hty : ty = .int ∨ ty = .boolean ∧ (a = 0 ∨ a = 1)) (hκ : κ.2.1 ≤ κ.2.2.2.1 ∧ κ.2.2.1 ≤ κ.2.2.2.2) (hp : post (some (vi a)) n sh σ) : Go G X M κ n sh σ pc L [vi a] post := fun C H locs ls h1 h2 h3 h4 => by
  intro T hT Xs
  have hsz := z_size h1 h2 h3 C.2.2.2.2.2.2.2.2.2.2 hT Xs
  exact W.widen hκ.1 hκ.2 (W.zret (ty := ty) C.1 C.2.1 (by rw [C.2.2.2.2.2.1, hr]) (zi_nar hty) (zQ_of (C := C) hsz h2 h3 hp) h3.2.2 hd (hlocks := C.2.2.2.2.2.2.1)) T hT Xs
theorem g_lret {a : Int} (hd : decode M.1 pc = .ok (.lreturn, 1)) (hr : M.2.2.2.1 = some .long) (hκ : κ.2.1 ≤ κ.2.2.2.1 ∧ κ.2.2.1 ≤ κ.2.2.2.2) (hp : post (some (vl a)) n sh σ) : Go G X M κ n sh σ pc L [vl a] post := fun C H locs ls h1 h2 h3 h4 => by
  intro T hT Xs
  have hsz := z_size h1 h2 h3 C.2.2.2.2.2.2.2.2.2.2 hT Xs
  exact W.widen hκ.1 hκ.2 (W.lret C.1 C.2.1 (by rw [C.2.2.2.2.2.1, hr]) (zQ_of (C := C) hsz h2 h3 hp) h3.2.2 hd (hlocks := C.2.2.2.2.2.2.1)) T hT Xs
theorem g_ret (hd : decode M.1 pc = .ok (.return_, 1)) (hr : M.2.2.2.1 = none) (hκ : κ.2.1 ≤ κ.2.2.2.1 ∧ κ.2.2.1 ≤ κ.2.2.2.2) (hp : post none n sh σ) : Go G X M κ n sh σ pc L [] post := fun C H locs ls h1 h2 h3 h4 => by
  intro T hT Xs
  have hsz := z_size h1 h2 h3 C.2.2.2.2.2.2.2.2.2.2 hT Xs
  exact W.widen hκ.1 hκ.2 (W.vret C.1 C.2.1 (by rw [C.2.2.2.2.2.1, hr]) (zQ_of (C := C) hsz h2 h3 hp) h3.2.2 hd (hlocks := C.2.2.2.2.2.2.1)) T hT Xs
theorem g_aret {a : Nat} {cn : String} (hd : decode M.1 pc = .ok (.areturn, 1)) (hr : M.2.2.2.1 = some (.object cn)) (hκ : κ.2.1 ≤ κ.2.2.2.1 ∧ κ.2.2.1 ≤ κ.2.2.2.2) (hp : post (some (.ref a)) n sh σ) : Go G X M κ n sh σ pc L [.ref a] post := fun C H locs ls h1 h2 h3 h4 => by
  intro T hT Xs
  have hsz := z_size h1 h2 h3 C.2.2.2.2.2.2.2.2.2.2 hT Xs
  exact W.widen hκ.1 hκ.2 (W.aret (rt := .object cn) C.1 C.2.1 (by rw [C.2.2.2.2.2.1, hr]) (Or.inl ⟨cn, rfl⟩) (Or.inr ⟨a, rfl⟩) (zQ_of (C := C) hsz h2 h3 hp) h3.2.2 hd (hlocks := C.2.2.2.2.2.2.1)) T hT Xs
/-- what a call's run gives -/
theorem g_run {mc ms : Nat} {post' : zPost} {a : Array Value} {st0 : List Value} (hr : zCx G X M κ → ∀ (H : Heap) (locs : List Loc) (ls : Array Slot), X.2.2.1.heap.size + κ.2.1 = G.2.1 + n → va_P (zD G) zcl (zW G n sh σ) H → va_S (zA G) X.2.2.1.heap H locs → lv_has ls M.2.2.1 L →
      va_Run X.1 G.1 X.2.1 (zR κ.1 κ.2.2.2.1 κ.2.2.2.2) X.2.2.1 X.2.2.2.1 X.2.2.2.2.1 X.2.2.2.2.2.1 X.2.2.2.2.2.2.1 X.2.2.2.2.2.2.2 H locs κ.2.1 κ.2.2.1 mc ms (F0 X.2.2.2.1 pc ls st0) st (zQ G post' a) (zA G))
    (kk : ∀ (r : Option Value) (n' : Nat) (sh' : Nat → zSh) (σ' : zSt), post' r n' sh' σ' → n' = n + mc ∧ Go G X M (κ.1, κ.2.1 + mc, κ.2.2.1 + ms, κ.2.2.2.1, κ.2.2.2.2) n' sh' σ' (pc + 3) L (r.toList ++ st) post) : Go G X M κ n sh σ pc L st0 post := fun C H locs ls h1 h2 h3 h4 => by
  intro T hT Xs
  obtain ⟨v, st₀, t, T', Lx, e0, X', hL, e1, e2, ⟨⟨r, n', sh', σ', hv, hp, hz, hP⟩, hF⟩, stp⟩ := hr C H locs ls h1 h2 h3 h4 T hT Xs
  cases hv
  obtain ⟨hn, hk⟩ := kk v n' sh' σ' hp
  have hF1 : H.size ≤ t.heap.size := by rw [← e0]; exact hF.1
  have hF2 : ∀ q : Nat, q < H.size → ¬ zA G q → t.heap[q]? = H[q]? := by rw [← e0]; exact fun q a b => hF.2 q a b
  obtain ⟨t2, a1, b1⟩ := hk C T'.heap (locs ++ Lx) ls (by show _ + (κ.2.1 + mc) = _; omega) (by rw [e1]; exact hP) ⟨Nat.le_trans h3.1 (by rw [e1]; exact hF1), fun q g1 g2 => by
      rw [e1, hF2 q (Nat.lt_of_lt_of_le g1 h3.1) g2]
      exact h3.2.1 q g1 g2, fun q hq => by
      rcases List.mem_append.mp hq with h | h
      · exact h3.2.2 q h
      · exact hL q h⟩ h4 T' rfl X'
  exact ⟨t2, stp t2 a1, b1⟩
theorem zPre {av : List Value} (C : zCx G X M κ) {H : Heap} {locs : List Loc} (hsz : H.size = G.2.1 + n) (h2 : va_P (zD G) zcl (zW G n sh σ) H) (h3 : va_S (zA G) X.2.2.1.heap H locs) : ∀ U : State, U.heap = H → X.2.2.1.WarmedH U.vm → va_Pc av (zWd G n sh σ) av.toArray U := fun U hU hW =>
  ⟨rfl, by rw [hU]; exact hsz, by rw [hU]; exact h2, va_K.moved hW.alike C.2.2.2.2.2.2.2.2.1, by rw [hU]; exact C.2.2.2.2.2.2.2.2.2.1.moved hW h3.2.1⟩
/-- a call of a method of an object -/
theorem g_callV {y : MethodName} {M' : zM} {d mc ms na k ci x : Nat} {fl : List (Option Nat ⊕ FieldType)} {As : List Value} {post' : zPost} {st0 : List Value} (hm : Gm G y M' d mc ms (vr G k :: As) n sh σ post') (hy : zCalV y M' na) (hl : Cond.methodLink M.2.1 x y ∈ zT) (hd : decode M.1 pc = .ok (.invokevirtual x, 3)) (hk : k < n) (hs : sh k = .inl (ci, fl)) (hc : (zcl[ci]?).map (·.1) = some y.cls) (hn : As.length = na) (hst : st0 = As.reverse ++ vr G k :: st) (hw : (st.map fun v => v.category).sum ≤ 8) (hR : d + 1 ≤ κ.1) (hmc : κ.2.1 + mc ≤ κ.2.2.2.1 ∧ κ.2.2.1 + ms ≤ κ.2.2.2.2)
    (kk : ∀ (r : Option Value) (n' : Nat) (sh' : Nat → zSh) (σ' : zSt), post' r n' sh' σ' → n' = n + mc ∧ Go G X M (κ.1, κ.2.1 + mc, κ.2.2.1 + ms, κ.2.2.2.1, κ.2.2.2.2) n' sh' σ' (pc + 3) L (r.toList ++ st) post) : Go G X M κ n sh σ pc L st0 post := by
  refine g_run (a := (vr G k :: As).toArray) (mc := mc) (ms := ms) (post' := post') (fun C H locs ls h1 h2 h3 h4 => ?_) kk
  intro T hT Xs
  have hsz := z_size h1 h2 h3 C.2.2.2.2.2.2.2.2.2.2 hT Xs
  obtain ⟨⟨hcode, hini, hdd, hml⟩, hinst, hsel⟩ := hy
  have hts := C.2.2.2.2.1
  obtain ⟨q, hq, hq1⟩ : ∃ q, zcl[ci]? = some q ∧ q.1 = y.cls := by
    cases hz : zcl[ci]? with
    | none => rw [hz] at hc; cases hc
    | some q => rw [hz] at hc; exact ⟨q, rfl, Option.some.inj hc⟩
  have cw : CallW (zR κ.1 κ.2.2.2.1 κ.2.2.2.2) X.2.2.1 X.2.2.2.2.1 M.2.1 y.cls x y M'.1 M'.2.2.1 M'.2.2.2.1 (zws y M') (zR d mc ms) mc ms na :=
    ⟨callB_of na hts (zws_good hcode) rfl rfl rfl (hts _ hini) (hts _ hl) hdd ⟨hR, by show 8 + (M'.2.2.1 + 11) + 64 * d ≤ 64 * κ.1; omega⟩, hts _ hinst, hts _ hsel⟩
  have hrecv := va_recv C.2.2.2.2.2.2.2.2.1 h2 hq (q0 := k) (a := G.2.1 + k) (fs := fl.mapIdx (zFld G (σ k))) (by rw [zW_get hk, hs]; rfl)
  rw [hq1] at hrecv
  exact va_runV ⟨C.1, C.2.1, C.2.2.1, C.2.2.2.1, hts⟩ hm cw ⟨zWd_blind G n sh σ _, hrecv, zPre C hsz h2 h3⟩ rfl hn h4.1 hst (lv_room hw) hd ⟨hmc.1, hmc.2⟩ T hT Xs
/-- a call of a static method -/
theorem g_callS {y : MethodName} {M' : zM} {d mc ms na x : Nat} {As : List Value} {post' : zPost} {st0 : List Value} (hm : Gm G y M' d mc ms As n sh σ post') (hy : zCalS y M' na) (hl : Cond.methodLink M.2.1 x y ∈ zT) (hd : decode M.1 pc = .ok (.invokestatic x, 3)) (hn : As.length = na) (hst : st0 = As.reverse ++ st) (hw : (st.map fun v => v.category).sum ≤ 8) (hR : d + 1 ≤ κ.1) (hmc : κ.2.1 + mc ≤ κ.2.2.2.1 ∧ κ.2.2.1 + ms ≤ κ.2.2.2.2)
    (kk : ∀ (r : Option Value) (n' : Nat) (sh' : Nat → zSh) (σ' : zSt), post' r n' sh' σ' → n' = n + mc ∧ Go G X M (κ.1, κ.2.1 + mc, κ.2.2.1 + ms, κ.2.2.2.1, κ.2.2.2.2) n' sh' σ' (pc + 3) L (r.toList ++ st) post) : Go G X M κ n sh σ pc L st0 post := by
  refine g_run (a := As.toArray) (mc := mc) (ms := ms) (post' := post') (fun C H locs ls h1 h2 h3 h4 => ?_) kk
  intro T hT Xs
  have hsz := z_size h1 h2 h3 C.2.2.2.2.2.2.2.2.2.2 hT Xs
  obtain ⟨⟨hcode, hini, hdd, hml⟩, hstat⟩ := hy
  have hts := C.2.2.2.2.1
  have cw : CallB (zR κ.1 κ.2.2.2.1 κ.2.2.2.2) X.2.2.1 X.2.2.2.2.1 M.2.1 x y M'.1 M'.2.2.1 M'.2.2.2.1 (zws y M') (zR d mc ms) mc ms na ∧ (Cond.static y).before X.2.2.2.2.1 X.2.2.1 = true := ⟨callB_of na hts (zws_good hcode) rfl rfl rfl (hts _ hini) (hts _ hl) hdd ⟨hR, by show 8 + (M'.2.2.1 + 11) + 64 * d ≤ 64 * κ.1; omega⟩, hts _ hstat⟩
  exact va_runS ⟨C.1, C.2.1, C.2.2.1, C.2.2.2.1, hts⟩ hm cw ⟨zWd_blind G n sh σ _, zPre C hsz h2 h3⟩ rfl hn h4.1 hst (lv_room hw) hd ⟨hmc.1, hmc.2⟩ T hT Xs
end GO
/-- A METHOD'S CONTRACT out of its body -/
theorem g_enter {G : zG} {y : MethodName} {M : zM} {d mc ms : Nat} {av : List Value} {n : Nat} {sh : Nat → zSh} {σ : zSt} {post : zPost} {L : List (Nat × Value)} (hp : plainName y.cls = true) (hc : M.2.1 = y.cls) (hn : M.2.2.2.2 = y.name) (hL : lv_args 0 av = L) (hl : (lg_sl av).length ≤ M.2.2.1)
    (body : ∀ X : zX, Go G X M (d, 0, 0, mc, ms) n sh σ 0 L [] post) : Gm G y M d mc ms av n sh σ post := by
  refine Met.ofW (cc := M.1) (maxL := M.2.2.1) (ret := M.2.2.2.1) hp rfl ?_
  intro p e s m args below meth c s₁ B hml hv
  obtain ⟨rfl, h0, h1, h2, h3⟩ := hv
  have hts := atoms_spec (ws := zws y M) B.pre
  have hent := lv_entry av (n := M.2.2.1) hl
  rw [lg_entry_eq]
  rw [hL] at hent
  exact body (p, e, s, m, av.toArray, below, meth, c) ⟨B.exec, B.bytes, hml, by rw [hc]; exact findClass_of_methodNamed B.named, fun w hw => hts w (List.mem_cons_of_mem _ hw), B.returns, B.notSynchronized, by rw [hn]; exact (name_of_methodNamed B.named B.method).1, h2, h3, by show G.2.1 ≤ s.heap.size; omega⟩ s.heap [] _ (by show s.heap.size + 0 = _; omega) h1 va_S.rf hent
/-- a weaker end -/
theorem Gm.mono {G : zG} {y : MethodName} {M : zM} {d mc ms : Nat} {av : List Value} {n : Nat} {sh : Nat → zSh} {σ : zSt} {post post' : zPost} (h : Gm G y M d mc ms av n sh σ post) (hp : ∀ r n' sh' σ', post r n' sh' σ' → post' r n' sh' σ') : Gm G y M d mc ms av n sh σ post' := by
  intro p e ha hc hk s m args below hf happ hP hK
  obtain ⟨t, o, a1, a2, a3, ⟨⟨⟨r, n', sh', σ', e1, e2, e3⟩, e4⟩, e5⟩⟩ := h p e ha hc hk s m args below hf happ hP hK
  exact ⟨t, o, a1, a2, a3, ⟨⟨⟨r, n', sh', σ', e1, hp _ _ _ _ e2, e3⟩, e4⟩, e5⟩⟩
end
section
theorem zin {w : Cond} (h : w ∈ tables_1) (hg : goodWord w = true) : w ∈ zT := List.mem_filter.mpr ⟨List.mem_append_right _ h, hg⟩
theorem zip {w : Cond} {q : MethodName × Nat} (h : q ∈ lw_privs) (hw : w = Cond.selects q.1.cls q.1 q.1) (hg : goodWord w = true) : w ∈ zT := List.mem_filter.mpr ⟨List.mem_append_left _ (List.mem_map.mpr ⟨q, h, hw.symm⟩), hg⟩
theorem zk_1 (j : Nat) {w : Cond} (h : tables_1_1[j]? = some w) (hg : goodWord w = true) : w ∈ zT := zin (List.mem_append_left _ (List.mem_of_getElem? h)) hg
theorem zk_2 (j : Nat) {w : Cond} (h : tables_1_2[j]? = some w) (hg : goodWord w = true) : w ∈ zT := zin (List.mem_append_right _ (List.mem_append_left _ (List.mem_of_getElem? h))) hg
theorem zk_3 (j : Nat) {w : Cond} (h : tables_1_3[j]? = some w) (hg : goodWord w = true) : w ∈ zT := zin (List.mem_append_right _ (List.mem_append_right _ (List.mem_append_left _ (List.mem_of_getElem? h)))) hg
theorem zk_4 (j : Nat) {w : Cond} (h : tables_1_4[j]? = some w) (hg : goodWord w = true) : w ∈ zT := zin (List.mem_append_right _ (List.mem_append_right _ (List.mem_append_right _ (List.mem_append_left _ (List.mem_of_getElem? h))))) hg
theorem zk_5 (j : Nat) {w : Cond} (h : tables_1_5[j]? = some w) (hg : goodWord w = true) : w ∈ zT := zin (List.mem_append_right _ (List.mem_append_right _ (List.mem_append_right _ (List.mem_append_right _ (List.mem_append_left _ (List.mem_of_getElem? h)))))) hg
theorem zk_6 (j : Nat) {w : Cond} (h : tables_1_6[j]? = some w) (hg : goodWord w = true) : w ∈ zT := zin (List.mem_append_right _ (List.mem_append_right _ (List.mem_append_right _ (List.mem_append_right _ (List.mem_append_right _ (List.mem_append_left _ (List.mem_of_getElem? h))))))) hg
theorem zk_7 (j : Nat) {w : Cond} (h : tables_1_7[j]? = some w) (hg : goodWord w = true) : w ∈ zT := zin (List.mem_append_right _ (List.mem_append_right _ (List.mem_append_right _ (List.mem_append_right _ (List.mem_append_right _ (List.mem_append_right _ (List.mem_append_left _ (List.mem_of_getElem? h)))))))) hg
theorem zk_8 (j : Nat) {w : Cond} (h : tables_1_8[j]? = some w) (hg : goodWord w = true) : w ∈ zT := zin (List.mem_append_right _ (List.mem_append_right _ (List.mem_append_right _ (List.mem_append_right _ (List.mem_append_right _ (List.mem_append_right _ (List.mem_append_right _ (List.mem_of_getElem? h)))))))) hg
theorem zp_1 (j : Nat) {w : Cond} {q : MethodName × Nat} (h : lw_privs_1[j]? = some q) (hw : w = Cond.selects q.1.cls q.1 q.1) (hg : goodWord w = true) : w ∈ zT := zip (List.mem_append_left _ (List.mem_of_getElem? h)) hw hg
theorem zp_2 (j : Nat) {w : Cond} {q : MethodName × Nat} (h : lw_privs_2[j]? = some q) (hw : w = Cond.selects q.1.cls q.1 q.1) (hg : goodWord w = true) : w ∈ zT := zip (List.mem_append_right _ (List.mem_append_left _ (List.mem_of_getElem? h))) hw hg
theorem zp_3 (j : Nat) {w : Cond} {q : MethodName × Nat} (h : lw_privs_3[j]? = some q) (hw : w = Cond.selects q.1.cls q.1 q.1) (hg : goodWord w = true) : w ∈ zT := zip (List.mem_append_right _ (List.mem_append_right _ (List.mem_append_left _ (List.mem_of_getElem? h)))) hw hg
theorem zp_4 (j : Nat) {w : Cond} {q : MethodName × Nat} (h : lw_privs_4[j]? = some q) (hw : w = Cond.selects q.1.cls q.1 q.1) (hg : goodWord w = true) : w ∈ zT := zip (List.mem_append_right _ (List.mem_append_right _ (List.mem_append_right _ (List.mem_append_left _ (List.mem_of_getElem? h))))) hw hg
theorem zp_5 (j : Nat) {w : Cond} {q : MethodName × Nat} (h : lw_privs_5[j]? = some q) (hw : w = Cond.selects q.1.cls q.1 q.1) (hg : goodWord w = true) : w ∈ zT := zip (List.mem_append_right _ (List.mem_append_right _ (List.mem_append_right _ (List.mem_append_right _ (List.mem_append_left _ (List.mem_of_getElem? h)))))) hw hg
theorem zp_6 (j : Nat) {w : Cond} {q : MethodName × Nat} (h : lw_privs_6[j]? = some q) (hw : w = Cond.selects q.1.cls q.1 q.1) (hg : goodWord w = true) : w ∈ zT := zip (List.mem_append_right _ (List.mem_append_right _ (List.mem_append_right _ (List.mem_append_right _ (List.mem_append_right _ (List.mem_append_left _ (List.mem_of_getElem? h))))))) hw hg
theorem zp_7 (j : Nat) {w : Cond} {q : MethodName × Nat} (h : lw_privs_7[j]? = some q) (hw : w = Cond.selects q.1.cls q.1 q.1) (hg : goodWord w = true) : w ∈ zT := zip (List.mem_append_right _ (List.mem_append_right _ (List.mem_append_right _ (List.mem_append_right _ (List.mem_append_right _ (List.mem_append_right _ (List.mem_append_left _ (List.mem_of_getElem? h)))))))) hw hg
theorem zp_8 (j : Nat) {w : Cond} {q : MethodName × Nat} (h : lw_privs_8[j]? = some q) (hw : w = Cond.selects q.1.cls q.1 q.1) (hg : goodWord w = true) : w ∈ zT := zip (List.mem_append_right _ (List.mem_append_right _ (List.mem_append_right _ (List.mem_append_right _ (List.mem_append_right _ (List.mem_append_right _ (List.mem_append_right _ (List.mem_append_left _ (List.mem_of_getElem? h))))))))) hw hg
theorem zp_9 (j : Nat) {w : Cond} {q : MethodName × Nat} (h : lw_privs_9[j]? = some q) (hw : w = Cond.selects q.1.cls q.1 q.1) (hg : goodWord w = true) : w ∈ zT := zip (List.mem_append_right _ (List.mem_append_right _ (List.mem_append_right _ (List.mem_append_right _ (List.mem_append_right _ (List.mem_append_right _ (List.mem_append_right _ (List.mem_append_right _ (List.mem_of_getElem? h))))))))) hw hg
theorem fo_La : zFO 0 R_La F_La 6 t_La := ⟨rfl, i_La, t_La_ok, n_La⟩
theorem fo_Mo : zFO 1 R_Mo F_Mo 9 t_Mo := ⟨rfl, i_Mo, t_Mo_ok, n_Mo⟩
theorem fo_Pa : zFO 2 R_Pa F_Pa 3 t_Pa := ⟨rfl, i_Pa, t_Pa_ok, n_Pa⟩
theorem fo_Rd : zFO 3 R_Rd F_Rd 15 t_Rd := ⟨rfl, i_Rd, t_Rd_ok, n_Rd⟩
theorem fo_Re : zFO 4 R_Re F_Re 8 t_Re := ⟨rfl, i_Re, t_Re_ok, n_Re⟩
theorem fo_Sh : zFO 5 R_Sh F_Sh 11 t_Sh := ⟨rfl, i_Sh, t_Sh_ok, n_Sh⟩
theorem fo_Sg : zFO 6 R_Sg F_Sg 8 t_Sg := ⟨rfl, i_Sg, t_Sg_ok, n_Sg⟩
theorem fo_Sr : zFO 7 R_Sr F_Sr 6 t_Sr := ⟨rfl, i_Sr, t_Sr_ok, n_Sr⟩
theorem fo_Ta : zFO 8 R_Ta F_Ta 2 t_Ta := ⟨rfl, i_Ta, t_Ta_ok, n_Ta⟩
theorem fo_Nc : zFO 9 R_Nc F_Nc 13 t_Nc := ⟨rfl, i_Nc, t_Nc_ok, n_Nc⟩
theorem fo_Md : zFO 10 R_Md F_Md 50 t_Md := ⟨rfl, i_Md, t_Md_ok, n_Md⟩
theorem f_Sh_39 : zFL "NestedClips$Show" 39 5 0 false (.int) := ⟨R_Sh, F_Sh, 11, t_Sh, fo_Sh, by decide, zk_1 33 rfl rfl, rfl, rfl, rfl⟩
theorem f_La_32 : zFL "NestedClips$Layout" 32 5 0 false (.int) := ⟨R_Sh, F_Sh, 11, t_Sh, fo_Sh, by decide, zk_1 34 rfl rfl, rfl, rfl, rfl⟩
theorem f_Sg_80 : zFL "NestedClips$Stage" 80 5 0 false (.int) := ⟨R_Sh, F_Sh, 11, t_Sh, fo_Sh, by decide, zk_1 35 rfl rfl, rfl, rfl, rfl⟩
theorem f_Rd_100 : zFL "NestedClips$Reader" 100 5 0 false (.int) := ⟨R_Sh, F_Sh, 11, t_Sh, fo_Sh, by decide, zk_1 36 rfl rfl, rfl, rfl, rfl⟩
theorem f_Nc_111 : zFL "NestedClips" 111 5 0 false (.int) := ⟨R_Sh, F_Sh, 11, t_Sh, fo_Sh, by decide, zk_1 37 rfl rfl, rfl, rfl, rfl⟩
theorem f_Sh_9 : zFL "NestedClips$Show" 9 5 1 true (.array .int) := ⟨R_Sh, F_Sh, 11, t_Sh, fo_Sh, by decide, zk_1 38 rfl rfl, rfl, rfl, rfl⟩
theorem f_La_37 : zFL "NestedClips$Layout" 37 5 1 true (.array .int) := ⟨R_Sh, F_Sh, 11, t_Sh, fo_Sh, by decide, zk_1 39 rfl rfl, rfl, rfl, rfl⟩
theorem f_Rd_124 : zFL "NestedClips$Reader" 124 5 1 true (.array .int) := ⟨R_Sh, F_Sh, 11, t_Sh, fo_Sh, by decide, zk_1 40 rfl rfl, rfl, rfl, rfl⟩
theorem f_Sg_96 : zFL "NestedClips$Stage" 96 5 1 true (.array .int) := ⟨R_Sh, F_Sh, 11, t_Sh, fo_Sh, by decide, zk_1 41 rfl rfl, rfl, rfl, rfl⟩
theorem f_Nc_124 : zFL "NestedClips" 124 5 1 true (.array .int) := ⟨R_Sh, F_Sh, 11, t_Sh, fo_Sh, by decide, zk_1 42 rfl rfl, rfl, rfl, rfl⟩
theorem f_Sh_15 : zFL "NestedClips$Show" 15 5 2 true (.array .int) := ⟨R_Sh, F_Sh, 11, t_Sh, fo_Sh, by decide, zk_1 43 rfl rfl, rfl, rfl, rfl⟩
theorem f_La_60 : zFL "NestedClips$Layout" 60 5 2 true (.array .int) := ⟨R_Sh, F_Sh, 11, t_Sh, fo_Sh, by decide, zk_1 44 rfl rfl, rfl, rfl, rfl⟩
theorem f_Nc_142 : zFL "NestedClips" 142 5 2 true (.array .int) := ⟨R_Sh, F_Sh, 11, t_Sh, fo_Sh, by decide, zk_1 45 rfl rfl, rfl, rfl, rfl⟩
theorem f_Sg_124 : zFL "NestedClips$Stage" 124 5 2 true (.array .int) := ⟨R_Sh, F_Sh, 11, t_Sh, fo_Sh, by decide, zk_1 46 rfl rfl, rfl, rfl, rfl⟩
theorem f_Rd_166 : zFL "NestedClips$Reader" 166 5 2 true (.array .int) := ⟨R_Sh, F_Sh, 11, t_Sh, fo_Sh, by decide, zk_1 47 rfl rfl, rfl, rfl, rfl⟩
theorem f_Sh_18 : zFL "NestedClips$Show" 18 5 3 true (.array .int) := ⟨R_Sh, F_Sh, 11, t_Sh, fo_Sh, by decide, zk_1 48 rfl rfl, rfl, rfl, rfl⟩
theorem f_Nc_148 : zFL "NestedClips" 148 5 3 true (.array .int) := ⟨R_Sh, F_Sh, 11, t_Sh, fo_Sh, by decide, zk_1 49 rfl rfl, rfl, rfl, rfl⟩
theorem f_Sh_21 : zFL "NestedClips$Show" 21 5 4 true (.array .int) := ⟨R_Sh, F_Sh, 11, t_Sh, fo_Sh, by decide, zk_1 50 rfl rfl, rfl, rfl, rfl⟩
theorem f_La_79 : zFL "NestedClips$Layout" 79 5 4 true (.array .int) := ⟨R_Sh, F_Sh, 11, t_Sh, fo_Sh, by decide, zk_1 51 rfl rfl, rfl, rfl, rfl⟩
theorem f_Nc_167 : zFL "NestedClips" 167 5 4 true (.array .int) := ⟨R_Sh, F_Sh, 11, t_Sh, fo_Sh, by decide, zk_1 52 rfl rfl, rfl, rfl, rfl⟩
theorem f_Sh_24 : zFL "NestedClips$Show" 24 5 5 true (.array .int) := ⟨R_Sh, F_Sh, 11, t_Sh, fo_Sh, by decide, zk_1 53 rfl rfl, rfl, rfl, rfl⟩
theorem f_La_76 : zFL "NestedClips$Layout" 76 5 5 true (.array .int) := ⟨R_Sh, F_Sh, 11, t_Sh, fo_Sh, by decide, zk_1 54 rfl rfl, rfl, rfl, rfl⟩
theorem f_Nc_170 : zFL "NestedClips" 170 5 5 true (.array .int) := ⟨R_Sh, F_Sh, 11, t_Sh, fo_Sh, by decide, zk_1 55 rfl rfl, rfl, rfl, rfl⟩
theorem f_Rd_176 : zFL "NestedClips$Reader" 176 5 5 true (.array .int) := ⟨R_Sh, F_Sh, 11, t_Sh, fo_Sh, by decide, zk_1 56 rfl rfl, rfl, rfl, rfl⟩
theorem f_Sh_27 : zFL "NestedClips$Show" 27 5 6 true (.array .int) := ⟨R_Sh, F_Sh, 11, t_Sh, fo_Sh, by decide, zk_1 57 rfl rfl, rfl, rfl, rfl⟩
theorem f_La_54 : zFL "NestedClips$Layout" 54 5 6 true (.array .int) := ⟨R_Sh, F_Sh, 11, t_Sh, fo_Sh, by decide, zk_1 58 rfl rfl, rfl, rfl, rfl⟩
theorem f_Nc_173 : zFL "NestedClips" 173 5 6 true (.array .int) := ⟨R_Sh, F_Sh, 11, t_Sh, fo_Sh, by decide, zk_1 59 rfl rfl, rfl, rfl, rfl⟩
theorem f_Sg_168 : zFL "NestedClips$Stage" 168 5 6 true (.array .int) := ⟨R_Sh, F_Sh, 11, t_Sh, fo_Sh, by decide, zk_1 60 rfl rfl, rfl, rfl, rfl⟩
theorem f_Sh_30 : zFL "NestedClips$Show" 30 5 7 true (.array .int) := ⟨R_Sh, F_Sh, 11, t_Sh, fo_Sh, by decide, zk_1 61 rfl rfl, rfl, rfl, rfl⟩
theorem f_Sg_59 : zFL "NestedClips$Stage" 59 5 8 false (.int) := ⟨R_Sh, F_Sh, 11, t_Sh, fo_Sh, by decide, zk_1 62 rfl rfl, rfl, rfl, rfl⟩
theorem f_Sh_49 : zFL "NestedClips$Show" 49 5 8 false (.int) := ⟨R_Sh, F_Sh, 11, t_Sh, fo_Sh, by decide, zk_1 63 rfl rfl, rfl, rfl, rfl⟩
theorem f_Nc_190 : zFL "NestedClips" 190 5 8 false (.int) := ⟨R_Sh, F_Sh, 11, t_Sh, fo_Sh, by decide, zk_1 64 rfl rfl, rfl, rfl, rfl⟩
theorem f_Sh_33 : zFL "NestedClips$Show" 33 5 9 true (.array .int) := ⟨R_Sh, F_Sh, 11, t_Sh, fo_Sh, by decide, zk_1 65 rfl rfl, rfl, rfl, rfl⟩
theorem f_Sg_174 : zFL "NestedClips$Stage" 174 5 9 true (.array .int) := ⟨R_Sh, F_Sh, 11, t_Sh, fo_Sh, by decide, zk_1 66 rfl rfl, rfl, rfl, rfl⟩
theorem f_Nc_246 : zFL "NestedClips" 246 5 9 true (.array .int) := ⟨R_Sh, F_Sh, 11, t_Sh, fo_Sh, by decide, zk_1 67 rfl rfl, rfl, rfl, rfl⟩
theorem f_Sh_36 : zFL "NestedClips$Show" 36 5 10 true (.array .int) := ⟨R_Sh, F_Sh, 11, t_Sh, fo_Sh, by decide, zk_1 68 rfl rfl, rfl, rfl, rfl⟩
theorem f_Sg_64 : zFL "NestedClips$Stage" 64 5 10 true (.array .int) := ⟨R_Sh, F_Sh, 11, t_Sh, fo_Sh, by decide, zk_1 69 rfl rfl, rfl, rfl, rfl⟩
theorem f_Nc_249 : zFL "NestedClips" 249 5 10 true (.array .int) := ⟨R_Sh, F_Sh, 11, t_Sh, fo_Sh, by decide, zk_1 70 rfl rfl, rfl, rfl, rfl⟩
theorem f_La_9 : zFL "NestedClips$Layout" 9 0 0 true (.array .int) := ⟨R_La, F_La, 6, t_La, fo_La, by decide, zk_1 101 rfl rfl, rfl, rfl, rfl⟩
theorem f_Sg_151 : zFL "NestedClips$Stage" 151 0 0 true (.array .int) := ⟨R_La, F_La, 6, t_La, fo_La, by decide, zk_1 102 rfl rfl, rfl, rfl, rfl⟩
theorem f_Nc_230 : zFL "NestedClips" 230 0 0 true (.array .int) := ⟨R_La, F_La, 6, t_La, fo_La, by decide, zk_1 103 rfl rfl, rfl, rfl, rfl⟩
theorem f_La_15 : zFL "NestedClips$Layout" 15 0 1 true (.array .int) := ⟨R_La, F_La, 6, t_La, fo_La, by decide, zk_1 104 rfl rfl, rfl, rfl, rfl⟩
theorem f_Sg_144 : zFL "NestedClips$Stage" 144 0 1 true (.array .int) := ⟨R_La, F_La, 6, t_La, fo_La, by decide, zk_1 105 rfl rfl, rfl, rfl, rfl⟩
theorem f_Nc_233 : zFL "NestedClips" 233 0 1 true (.array .int) := ⟨R_La, F_La, 6, t_La, fo_La, by decide, zk_1 106 rfl rfl, rfl, rfl, rfl⟩
theorem f_La_18 : zFL "NestedClips$Layout" 18 0 2 true (.array .int) := ⟨R_La, F_La, 6, t_La, fo_La, by decide, zk_1 107 rfl rfl, rfl, rfl, rfl⟩
theorem f_Sg_137 : zFL "NestedClips$Stage" 137 0 2 true (.array .int) := ⟨R_La, F_La, 6, t_La, fo_La, by decide, zk_1 108 rfl rfl, rfl, rfl, rfl⟩
theorem f_Nc_243 : zFL "NestedClips" 243 0 2 true (.array .int) := ⟨R_La, F_La, 6, t_La, fo_La, by decide, zk_1 109 rfl rfl, rfl, rfl, rfl⟩
theorem f_La_21 : zFL "NestedClips$Layout" 21 0 3 true (.array .int) := ⟨R_La, F_La, 6, t_La, fo_La, by decide, zk_1 110 rfl rfl, rfl, rfl, rfl⟩
theorem f_Sg_171 : zFL "NestedClips$Stage" 171 0 3 true (.array .int) := ⟨R_La, F_La, 6, t_La, fo_La, by decide, zk_1 111 rfl rfl, rfl, rfl, rfl⟩
theorem f_La_24 : zFL "NestedClips$Layout" 24 0 4 true (.array .boolean) := ⟨R_La, F_La, 6, t_La, fo_La, by decide, zk_1 112 rfl rfl, rfl, rfl, rfl⟩
theorem f_Sg_130 : zFL "NestedClips$Stage" 130 0 4 true (.array .boolean) := ⟨R_La, F_La, 6, t_La, fo_La, by decide, zk_1 113 rfl rfl, rfl, rfl, rfl⟩
theorem f_Nc_236 : zFL "NestedClips" 236 0 4 true (.array .boolean) := ⟨R_La, F_La, 6, t_La, fo_La, by decide, zk_1 114 rfl rfl, rfl, rfl, rfl⟩
theorem f_La_28 : zFL "NestedClips$Layout" 28 0 5 false (.int) := ⟨R_La, F_La, 6, t_La, fo_La, by decide, zk_1 115 rfl rfl, rfl, rfl, rfl⟩
theorem f_Sg_53 : zFL "NestedClips$Stage" 53 0 5 false (.int) := ⟨R_La, F_La, 6, t_La, fo_La, by decide, zk_1 116 rfl rfl, rfl, rfl, rfl⟩
theorem f_Rd_90 : zFL "NestedClips$Reader" 90 0 5 false (.int) := ⟨R_La, F_La, 6, t_La, fo_La, by decide, zk_1 117 rfl rfl, rfl, rfl, rfl⟩
theorem f_Nc_215 : zFL "NestedClips" 215 0 5 false (.int) := ⟨R_La, F_La, 6, t_La, fo_La, by decide, zk_1 118 rfl rfl, rfl, rfl, rfl⟩
theorem f_Mo_9 : zFL "NestedClips$Moment" 9 1 0 false (.int) := ⟨R_Mo, F_Mo, 9, t_Mo, fo_Mo, by decide, zk_1 145 rfl rfl, rfl, rfl, rfl⟩
theorem f_Sg_43 : zFL "NestedClips$Stage" 43 1 0 false (.int) := ⟨R_Mo, F_Mo, 9, t_Mo, fo_Mo, by decide, zk_1 146 rfl rfl, rfl, rfl, rfl⟩
theorem f_Mo_15 : zFL "NestedClips$Moment" 15 1 1 false (.int) := ⟨R_Mo, F_Mo, 9, t_Mo, fo_Mo, by decide, zk_1 147 rfl rfl, rfl, rfl, rfl⟩
theorem f_Sg_165 : zFL "NestedClips$Stage" 165 1 1 false (.int) := ⟨R_Mo, F_Mo, 9, t_Mo, fo_Mo, by decide, zk_1 148 rfl rfl, rfl, rfl, rfl⟩
theorem f_Nc_283 : zFL "NestedClips" 283 1 1 false (.int) := ⟨R_Mo, F_Mo, 9, t_Mo, fo_Mo, by decide, zk_1 149 rfl rfl, rfl, rfl, rfl⟩
theorem f_Mo_18 : zFL "NestedClips$Moment" 18 1 2 true (.array .int) := ⟨R_Mo, F_Mo, 9, t_Mo, fo_Mo, by decide, zk_1 150 rfl rfl, rfl, rfl, rfl⟩
theorem f_Re_55 : zFL "NestedClips$Reel" 55 1 2 true (.array .int) := ⟨R_Mo, F_Mo, 9, t_Mo, fo_Mo, by decide, zk_1 151 rfl rfl, rfl, rfl, rfl⟩
theorem f_Sg_141 : zFL "NestedClips$Stage" 141 1 2 true (.array .int) := ⟨R_Mo, F_Mo, 9, t_Mo, fo_Mo, by decide, zk_1 152 rfl rfl, rfl, rfl, rfl⟩
theorem f_Nc_259 : zFL "NestedClips" 259 1 2 true (.array .int) := ⟨R_Mo, F_Mo, 9, t_Mo, fo_Mo, by decide, zk_1 153 rfl rfl, rfl, rfl, rfl⟩
theorem f_Mo_22 : zFL "NestedClips$Moment" 22 1 3 true (.array .int) := ⟨R_Mo, F_Mo, 9, t_Mo, fo_Mo, by decide, zk_1 154 rfl rfl, rfl, rfl, rfl⟩
theorem f_Re_63 : zFL "NestedClips$Reel" 63 1 3 true (.array .int) := ⟨R_Mo, F_Mo, 9, t_Mo, fo_Mo, by decide, zk_1 155 rfl rfl, rfl, rfl, rfl⟩
theorem f_Sr_36 : zFL "NestedClips$Stretch" 36 1 3 true (.array .int) := ⟨R_Mo, F_Mo, 9, t_Mo, fo_Mo, by decide, zk_1 156 rfl rfl, rfl, rfl, rfl⟩
theorem f_Sg_127 : zFL "NestedClips$Stage" 127 1 3 true (.array .int) := ⟨R_Mo, F_Mo, 9, t_Mo, fo_Mo, by decide, zk_1 157 rfl rfl, rfl, rfl, rfl⟩
theorem f_Nc_267 : zFL "NestedClips" 267 1 3 true (.array .int) := ⟨R_Mo, F_Mo, 9, t_Mo, fo_Mo, by decide, zk_1 158 rfl rfl, rfl, rfl, rfl⟩
theorem f_Mo_25 : zFL "NestedClips$Moment" 25 1 4 true (.array .int) := ⟨R_Mo, F_Mo, 9, t_Mo, fo_Mo, by decide, zk_1 159 rfl rfl, rfl, rfl, rfl⟩
theorem f_Re_60 : zFL "NestedClips$Reel" 60 1 4 true (.array .int) := ⟨R_Mo, F_Mo, 9, t_Mo, fo_Mo, by decide, zk_1 160 rfl rfl, rfl, rfl, rfl⟩
theorem f_Sg_154 : zFL "NestedClips$Stage" 154 1 4 true (.array .int) := ⟨R_Mo, F_Mo, 9, t_Mo, fo_Mo, by decide, zk_1 161 rfl rfl, rfl, rfl, rfl⟩
theorem f_Nc_270 : zFL "NestedClips" 270 1 4 true (.array .int) := ⟨R_Mo, F_Mo, 9, t_Mo, fo_Mo, by decide, zk_1 162 rfl rfl, rfl, rfl, rfl⟩
theorem f_Mo_28 : zFL "NestedClips$Moment" 28 1 5 true (.array .int) := ⟨R_Mo, F_Mo, 9, t_Mo, fo_Mo, by decide, zk_1 163 rfl rfl, rfl, rfl, rfl⟩
theorem f_Sg_140 : zFL "NestedClips$Stage" 140 1 5 true (.array .int) := ⟨R_Mo, F_Mo, 9, t_Mo, fo_Mo, by decide, zk_1 164 rfl rfl, rfl, rfl, rfl⟩
theorem f_Nc_276 : zFL "NestedClips" 276 1 5 true (.array .int) := ⟨R_Mo, F_Mo, 9, t_Mo, fo_Mo, by decide, zk_1 165 rfl rfl, rfl, rfl, rfl⟩
theorem f_Mo_31 : zFL "NestedClips$Moment" 31 1 6 true (.array .int) := ⟨R_Mo, F_Mo, 9, t_Mo, fo_Mo, by decide, zk_1 166 rfl rfl, rfl, rfl, rfl⟩
theorem f_Sg_157 : zFL "NestedClips$Stage" 157 1 6 true (.array .int) := ⟨R_Mo, F_Mo, 9, t_Mo, fo_Mo, by decide, zk_1 167 rfl rfl, rfl, rfl, rfl⟩
theorem f_Mo_34 : zFL "NestedClips$Moment" 34 1 7 true (.array .int) := ⟨R_Mo, F_Mo, 9, t_Mo, fo_Mo, by decide, zk_1 168 rfl rfl, rfl, rfl, rfl⟩
theorem f_Sg_109 : zFL "NestedClips$Stage" 109 1 7 true (.array .int) := ⟨R_Mo, F_Mo, 9, t_Mo, fo_Mo, by decide, zk_1 169 rfl rfl, rfl, rfl, rfl⟩
theorem f_Nc_277 : zFL "NestedClips" 277 1 7 true (.array .int) := ⟨R_Mo, F_Mo, 9, t_Mo, fo_Mo, by decide, zk_1 170 rfl rfl, rfl, rfl, rfl⟩
theorem f_Mo_37 : zFL "NestedClips$Moment" 37 1 8 true (.array .int) := ⟨R_Mo, F_Mo, 9, t_Mo, fo_Mo, by decide, zk_1 171 rfl rfl, rfl, rfl, rfl⟩
theorem f_Sg_90 : zFL "NestedClips$Stage" 90 1 8 true (.array .int) := ⟨R_Mo, F_Mo, 9, t_Mo, fo_Mo, by decide, zk_1 172 rfl rfl, rfl, rfl, rfl⟩
theorem f_Nc_280 : zFL "NestedClips" 280 1 8 true (.array .int) := ⟨R_Mo, F_Mo, 9, t_Mo, fo_Mo, by decide, zk_1 173 rfl rfl, rfl, rfl, rfl⟩
theorem f_Sg_29 : zFL "NestedClips$Stage" 29 6 0 true (.object "NestedClips$Show") := ⟨R_Sg, F_Sg, 8, t_Sg, fo_Sg, by decide, zk_1 194 rfl rfl, rfl, rfl, rfl⟩
theorem f_Sg_33 : zFL "NestedClips$Stage" 33 6 1 true (.object "NestedClips$Layout") := ⟨R_Sg, F_Sg, 8, t_Sg, fo_Sg, by decide, zk_1 195 rfl rfl, rfl, rfl, rfl⟩
theorem f_Sg_12 : zFL "NestedClips$Stage" 12 6 2 true (.object "NestedClips$Moment") := ⟨R_Sg, F_Sg, 8, t_Sg, fo_Sg, by decide, zk_1 196 rfl rfl, rfl, rfl, rfl⟩
theorem f_Sg_18 : zFL "NestedClips$Stage" 18 6 3 true (.array (.object "NestedClips$Moment")) := ⟨R_Sg, F_Sg, 8, t_Sg, fo_Sg, by decide, zk_1 197 rfl rfl, rfl, rfl, rfl⟩
theorem f_Sg_22 : zFL "NestedClips$Stage" 22 6 4 true (.array .int) := ⟨R_Sg, F_Sg, 8, t_Sg, fo_Sg, by decide, zk_1 198 rfl rfl, rfl, rfl, rfl⟩
theorem f_Sg_26 : zFL "NestedClips$Stage" 26 6 5 true (.array .int) := ⟨R_Sg, F_Sg, 8, t_Sg, fo_Sg, by decide, zk_1 199 rfl rfl, rfl, rfl, rfl⟩
theorem f_Sg_87 : zFL "NestedClips$Stage" 87 6 6 false (.int) := ⟨R_Sg, F_Sg, 8, t_Sg, fo_Sg, by decide, zk_1 200 rfl rfl, rfl, rfl, rfl⟩
theorem f_Sg_56 : zFL "NestedClips$Stage" 56 6 7 false (.int) := ⟨R_Sg, F_Sg, 8, t_Sg, fo_Sg, by decide, zk_1 201 rfl rfl, rfl, rfl, rfl⟩
theorem f_Sr_15 : zFL "NestedClips$Stretch" 15 7 0 true (.object "NestedClips$Stage") := ⟨R_Sr, F_Sr, 6, t_Sr, fo_Sr, by decide, zk_1 225 rfl rfl, rfl, rfl, rfl⟩
theorem f_Sr_9 : zFL "NestedClips$Stretch" 9 7 1 true (.array .int) := ⟨R_Sr, F_Sr, 6, t_Sr, fo_Sr, by decide, zk_1 226 rfl rfl, rfl, rfl, rfl⟩
theorem f_Sr_23 : zFL "NestedClips$Stretch" 23 7 2 false (.int) := ⟨R_Sr, F_Sr, 6, t_Sr, fo_Sr, by decide, zk_1 227 rfl rfl, rfl, rfl, rfl⟩
theorem f_Nc_304 : zFL "NestedClips" 304 7 2 false (.int) := ⟨R_Sr, F_Sr, 6, t_Sr, fo_Sr, by decide, zk_1 228 rfl rfl, rfl, rfl, rfl⟩
theorem f_Sr_27 : zFL "NestedClips$Stretch" 27 7 3 false (.int) := ⟨R_Sr, F_Sr, 6, t_Sr, fo_Sr, by decide, zk_1 229 rfl rfl, rfl, rfl, rfl⟩
theorem f_Nc_307 : zFL "NestedClips" 307 7 3 false (.int) := ⟨R_Sr, F_Sr, 6, t_Sr, fo_Sr, by decide, zk_1 230 rfl rfl, rfl, rfl, rfl⟩
theorem f_Sr_41 : zFL "NestedClips$Stretch" 41 7 4 false (.int) := ⟨R_Sr, F_Sr, 6, t_Sr, fo_Sr, by decide, zk_1 231 rfl rfl, rfl, rfl, rfl⟩
theorem f_Nc_310 : zFL "NestedClips" 310 7 4 false (.int) := ⟨R_Sr, F_Sr, 6, t_Sr, fo_Sr, by decide, zk_1 232 rfl rfl, rfl, rfl, rfl⟩
theorem f_Sr_56 : zFL "NestedClips$Stretch" 56 7 5 false (.int) := ⟨R_Sr, F_Sr, 6, t_Sr, fo_Sr, by decide, zk_1 233 rfl rfl, rfl, rfl, rfl⟩
theorem f_Nc_313 : zFL "NestedClips" 313 7 5 false (.int) := ⟨R_Sr, F_Sr, 6, t_Sr, fo_Sr, by decide, zk_1 234 rfl rfl, rfl, rfl, rfl⟩
theorem f_Pa_11 : zFL "NestedClips$Past" 11 2 0 true (.array (.object "NestedClips$Show")) := ⟨R_Pa, F_Pa, 3, t_Pa, fo_Pa, by decide, zk_2 17 rfl rfl, rfl, rfl, rfl⟩
theorem f_Pa_18 : zFL "NestedClips$Past" 18 2 1 false (.int) := ⟨R_Pa, F_Pa, 3, t_Pa, fo_Pa, by decide, zk_2 18 rfl rfl, rfl, rfl, rfl⟩
theorem f_Pa_26 : zFL "NestedClips$Past" 26 2 2 false (.int) := ⟨R_Pa, F_Pa, 3, t_Pa, fo_Pa, by decide, zk_2 19 rfl rfl, rfl, rfl, rfl⟩
theorem f_Nc_202 : zFL "NestedClips" 202 2 2 false (.int) := ⟨R_Pa, F_Pa, 3, t_Pa, fo_Pa, by decide, zk_2 20 rfl rfl, rfl, rfl, rfl⟩
theorem f_Ta_9 : zFL "NestedClips$Tape" 9 8 0 true (.array .int) := ⟨R_Ta, F_Ta, 2, t_Ta, fo_Ta, by decide, zk_2 34 rfl rfl, rfl, rfl, rfl⟩
theorem f_Rd_201 : zFL "NestedClips$Reader" 201 8 0 true (.array .int) := ⟨R_Ta, F_Ta, 2, t_Ta, fo_Ta, by decide, zk_2 35 rfl rfl, rfl, rfl, rfl⟩
theorem f_Ta_15 : zFL "NestedClips$Tape" 15 8 1 false (.int) := ⟨R_Ta, F_Ta, 2, t_Ta, fo_Ta, by decide, zk_2 36 rfl rfl, rfl, rfl, rfl⟩
theorem f_Nc_90 : zFL "NestedClips" 90 8 1 false (.int) := ⟨R_Ta, F_Ta, 2, t_Ta, fo_Ta, by decide, zk_2 37 rfl rfl, rfl, rfl, rfl⟩
theorem f_Rd_18 : zFL "NestedClips$Reader" 18 3 0 true (.object "NestedClips$Tape") := ⟨R_Rd, F_Rd, 15, t_Rd, fo_Rd, by decide, zk_2 49 rfl rfl, rfl, rfl, rfl⟩
theorem f_Rd_22 : zFL "NestedClips$Reader" 22 3 1 true (.object "NestedClips$Show") := ⟨R_Rd, F_Rd, 15, t_Rd, fo_Rd, by decide, zk_2 50 rfl rfl, rfl, rfl, rfl⟩
theorem f_Rd_26 : zFL "NestedClips$Reader" 26 3 2 true (.object "NestedClips$Layout") := ⟨R_Rd, F_Rd, 15, t_Rd, fo_Rd, by decide, zk_2 51 rfl rfl, rfl, rfl, rfl⟩
theorem f_Rd_30 : zFL "NestedClips$Reader" 30 3 3 false (.int) := ⟨R_Rd, F_Rd, 15, t_Rd, fo_Rd, by decide, zk_2 52 rfl rfl, rfl, rfl, rfl⟩
theorem f_Rd_61 : zFL "NestedClips$Reader" 61 3 4 false (.int) := ⟨R_Rd, F_Rd, 15, t_Rd, fo_Rd, by decide, zk_2 53 rfl rfl, rfl, rfl, rfl⟩
theorem f_Rd_182 : zFL "NestedClips$Reader" 182 3 5 false (.int) := ⟨R_Rd, F_Rd, 15, t_Rd, fo_Rd, by decide, zk_2 54 rfl rfl, rfl, rfl, rfl⟩
theorem f_Rd_34 : zFL "NestedClips$Reader" 34 3 6 false (.int) := ⟨R_Rd, F_Rd, 15, t_Rd, fo_Rd, by decide, zk_2 55 rfl rfl, rfl, rfl, rfl⟩
theorem f_Rd_117 : zFL "NestedClips$Reader" 117 3 7 false (.long) := ⟨R_Rd, F_Rd, 15, t_Rd, fo_Rd, by decide, zk_2 56 rfl rfl, rfl, rfl, rfl⟩
theorem f_Rd_11 : zFL "NestedClips$Reader" 11 3 8 true (.array .long) := ⟨R_Rd, F_Rd, 15, t_Rd, fo_Rd, by decide, zk_2 57 rfl rfl, rfl, rfl, rfl⟩
theorem f_Rd_15 : zFL "NestedClips$Reader" 15 3 9 true (.array .long) := ⟨R_Rd, F_Rd, 15, t_Rd, fo_Rd, by decide, zk_2 58 rfl rfl, rfl, rfl, rfl⟩
theorem f_Rd_37 : zFL "NestedClips$Reader" 37 3 10 false (.int) := ⟨R_Rd, F_Rd, 15, t_Rd, fo_Rd, by decide, zk_2 59 rfl rfl, rfl, rfl, rfl⟩
theorem f_Rd_40 : zFL "NestedClips$Reader" 40 3 11 false (.int) := ⟨R_Rd, F_Rd, 15, t_Rd, fo_Rd, by decide, zk_2 60 rfl rfl, rfl, rfl, rfl⟩
theorem f_Rd_121 : zFL "NestedClips$Reader" 121 3 12 false (.int) := ⟨R_Rd, F_Rd, 15, t_Rd, fo_Rd, by decide, zk_2 61 rfl rfl, rfl, rfl, rfl⟩
theorem f_Rd_43 : zFL "NestedClips$Reader" 43 3 13 false (.int) := ⟨R_Rd, F_Rd, 15, t_Rd, fo_Rd, by decide, zk_2 62 rfl rfl, rfl, rfl, rfl⟩
theorem f_Nc_104 : zFL "NestedClips" 104 3 13 false (.int) := ⟨R_Rd, F_Rd, 15, t_Rd, fo_Rd, by decide, zk_2 63 rfl rfl, rfl, rfl, rfl⟩
theorem f_Rd_46 : zFL "NestedClips$Reader" 46 3 14 false (.int) := ⟨R_Rd, F_Rd, 15, t_Rd, fo_Rd, by decide, zk_2 64 rfl rfl, rfl, rfl, rfl⟩
theorem f_Nc_105 : zFL "NestedClips" 105 3 14 false (.int) := ⟨R_Rd, F_Rd, 15, t_Rd, fo_Rd, by decide, zk_2 65 rfl rfl, rfl, rfl, rfl⟩
theorem f_Re_31 : zFL "NestedClips$Reel" 31 4 0 false (.int) := ⟨R_Re, F_Re, 8, t_Re, fo_Re, by decide, zk_2 104 rfl rfl, rfl, rfl, rfl⟩
theorem f_Nc_218 : zFL "NestedClips" 218 4 0 false (.int) := ⟨R_Re, F_Re, 8, t_Re, fo_Re, by decide, zk_2 105 rfl rfl, rfl, rfl, rfl⟩
theorem f_Re_35 : zFL "NestedClips$Reel" 35 4 1 false (.int) := ⟨R_Re, F_Re, 8, t_Re, fo_Re, by decide, zk_2 106 rfl rfl, rfl, rfl, rfl⟩
theorem f_Nc_227 : zFL "NestedClips" 227 4 1 false (.int) := ⟨R_Re, F_Re, 8, t_Re, fo_Re, by decide, zk_2 107 rfl rfl, rfl, rfl, rfl⟩
theorem f_Re_9 : zFL "NestedClips$Reel" 9 4 2 true (.array .int) := ⟨R_Re, F_Re, 8, t_Re, fo_Re, by decide, zk_2 108 rfl rfl, rfl, rfl, rfl⟩
theorem f_Nc_359 : zFL "NestedClips" 359 4 2 true (.array .int) := ⟨R_Re, F_Re, 8, t_Re, fo_Re, by decide, zk_2 109 rfl rfl, rfl, rfl, rfl⟩
theorem f_Re_15 : zFL "NestedClips$Reel" 15 4 3 true (.array .int) := ⟨R_Re, F_Re, 8, t_Re, fo_Re, by decide, zk_2 110 rfl rfl, rfl, rfl, rfl⟩
theorem f_Nc_360 : zFL "NestedClips" 360 4 3 true (.array .int) := ⟨R_Re, F_Re, 8, t_Re, fo_Re, by decide, zk_2 111 rfl rfl, rfl, rfl, rfl⟩
theorem f_Re_18 : zFL "NestedClips$Reel" 18 4 4 true (.array .int) := ⟨R_Re, F_Re, 8, t_Re, fo_Re, by decide, zk_2 112 rfl rfl, rfl, rfl, rfl⟩
theorem f_Nc_363 : zFL "NestedClips" 363 4 4 true (.array .int) := ⟨R_Re, F_Re, 8, t_Re, fo_Re, by decide, zk_2 113 rfl rfl, rfl, rfl, rfl⟩
theorem f_Re_21 : zFL "NestedClips$Reel" 21 4 5 true (.array .int) := ⟨R_Re, F_Re, 8, t_Re, fo_Re, by decide, zk_2 114 rfl rfl, rfl, rfl, rfl⟩
theorem f_Nc_366 : zFL "NestedClips" 366 4 5 true (.array .int) := ⟨R_Re, F_Re, 8, t_Re, fo_Re, by decide, zk_2 115 rfl rfl, rfl, rfl, rfl⟩
theorem f_Re_24 : zFL "NestedClips$Reel" 24 4 6 true (.array .boolean) := ⟨R_Re, F_Re, 8, t_Re, fo_Re, by decide, zk_2 116 rfl rfl, rfl, rfl, rfl⟩
theorem f_Re_28 : zFL "NestedClips$Reel" 28 4 7 true (.array .int) := ⟨R_Re, F_Re, 8, t_Re, fo_Re, by decide, zk_2 117 rfl rfl, rfl, rfl, rfl⟩
theorem f_Nc_10 : zFL "NestedClips" 10 9 0 true (.object "NestedClips$Show") := ⟨R_Nc, F_Nc, 13, t_Nc, fo_Nc, by decide, zk_2 226 rfl rfl, rfl, rfl, rfl⟩
theorem f_Nc_16 : zFL "NestedClips" 16 9 1 true (.object "NestedClips$Show") := ⟨R_Nc, F_Nc, 13, t_Nc, fo_Nc, by decide, zk_2 227 rfl rfl, rfl, rfl, rfl⟩
theorem f_Nc_22 : zFL "NestedClips" 22 9 2 true (.object "NestedClips$Layout") := ⟨R_Nc, F_Nc, 13, t_Nc, fo_Nc, by decide, zk_2 228 rfl rfl, rfl, rfl, rfl⟩
theorem f_Nc_26 : zFL "NestedClips" 26 9 3 true (.object "NestedClips$Layout") := ⟨R_Nc, F_Nc, 13, t_Nc, fo_Nc, by decide, zk_2 229 rfl rfl, rfl, rfl, rfl⟩
theorem f_Nc_34 : zFL "NestedClips" 34 9 4 true (.object "NestedClips$Stage") := ⟨R_Nc, F_Nc, 13, t_Nc, fo_Nc, by decide, zk_2 230 rfl rfl, rfl, rfl, rfl⟩
theorem f_Nc_43 : zFL "NestedClips" 43 9 5 true (.object "NestedClips$Stretch") := ⟨R_Nc, F_Nc, 13, t_Nc, fo_Nc, by decide, zk_2 231 rfl rfl, rfl, rfl, rfl⟩
theorem f_Nc_50 : zFL "NestedClips" 50 9 6 true (.object "NestedClips$Past") := ⟨R_Nc, F_Nc, 13, t_Nc, fo_Nc, by decide, zk_2 232 rfl rfl, rfl, rfl, rfl⟩
theorem f_Nc_57 : zFL "NestedClips" 57 9 7 true (.object "NestedClips$Tape") := ⟨R_Nc, F_Nc, 13, t_Nc, fo_Nc, by decide, zk_2 233 rfl rfl, rfl, rfl, rfl⟩
theorem f_Nc_66 : zFL "NestedClips" 66 9 8 true (.object "NestedClips$Reader") := ⟨R_Nc, F_Nc, 13, t_Nc, fo_Nc, by decide, zk_2 234 rfl rfl, rfl, rfl, rfl⟩
theorem f_Nc_73 : zFL "NestedClips" 73 9 9 true (.object "NestedClips$Reel") := ⟨R_Nc, F_Nc, 13, t_Nc, fo_Nc, by decide, zk_2 235 rfl rfl, rfl, rfl, rfl⟩
theorem f_Nc_77 : zFL "NestedClips" 77 9 10 false (.int) := ⟨R_Nc, F_Nc, 13, t_Nc, fo_Nc, by decide, zk_2 236 rfl rfl, rfl, rfl, rfl⟩
theorem f_Nc_81 : zFL "NestedClips" 81 9 11 false (.int) := ⟨R_Nc, F_Nc, 13, t_Nc, fo_Nc, by decide, zk_2 237 rfl rfl, rfl, rfl, rfl⟩
theorem f_Nc_84 : zFL "NestedClips" 84 9 12 false (.int) := ⟨R_Nc, F_Nc, 13, t_Nc, fo_Nc, by decide, zk_2 238 rfl rfl, rfl, rfl, rfl⟩
theorem f_Md_7 : zFL "NestedClipsModel" 7 10 0 true (.array .int) := ⟨R_Md, F_Md, 50, t_Md, fo_Md, by decide, zk_5 189 rfl rfl, rfl, rfl, rfl⟩
theorem f_Md_156 : zFL "NestedClipsModel" 156 10 1 false (.int) := ⟨R_Md, F_Md, 50, t_Md, fo_Md, by decide, zk_5 190 rfl rfl, rfl, rfl, rfl⟩
theorem f_Md_145 : zFL "NestedClipsModel" 145 10 2 false (.int) := ⟨R_Md, F_Md, 50, t_Md, fo_Md, by decide, zk_5 191 rfl rfl, rfl, rfl, rfl⟩
theorem f_Md_142 : zFL "NestedClipsModel" 142 10 3 false (.int) := ⟨R_Md, F_Md, 50, t_Md, fo_Md, by decide, zk_5 192 rfl rfl, rfl, rfl, rfl⟩
theorem f_Md_307 : zFL "NestedClipsModel" 307 10 4 false (.int) := ⟨R_Md, F_Md, 50, t_Md, fo_Md, by decide, zk_5 193 rfl rfl, rfl, rfl, rfl⟩
theorem f_Md_13 : zFL "NestedClipsModel" 13 10 5 true (.array .long) := ⟨R_Md, F_Md, 50, t_Md, fo_Md, by decide, zk_5 194 rfl rfl, rfl, rfl, rfl⟩
theorem f_Md_17 : zFL "NestedClipsModel" 17 10 6 true (.array .long) := ⟨R_Md, F_Md, 50, t_Md, fo_Md, by decide, zk_5 195 rfl rfl, rfl, rfl, rfl⟩
theorem f_Md_20 : zFL "NestedClipsModel" 20 10 7 true (.array .long) := ⟨R_Md, F_Md, 50, t_Md, fo_Md, by decide, zk_5 196 rfl rfl, rfl, rfl, rfl⟩
theorem f_Md_23 : zFL "NestedClipsModel" 23 10 8 true (.array .boolean) := ⟨R_Md, F_Md, 50, t_Md, fo_Md, by decide, zk_5 197 rfl rfl, rfl, rfl, rfl⟩
theorem f_Md_27 : zFL "NestedClipsModel" 27 10 9 true (.array .boolean) := ⟨R_Md, F_Md, 50, t_Md, fo_Md, by decide, zk_5 198 rfl rfl, rfl, rfl, rfl⟩
theorem f_Md_30 : zFL "NestedClipsModel" 30 10 10 true (.array .byte) := ⟨R_Md, F_Md, 50, t_Md, fo_Md, by decide, zk_5 199 rfl rfl, rfl, rfl, rfl⟩
theorem f_Md_198 : zFL "NestedClipsModel" 198 10 11 false (.int) := ⟨R_Md, F_Md, 50, t_Md, fo_Md, by decide, zk_5 200 rfl rfl, rfl, rfl, rfl⟩
theorem f_Md_34 : zFL "NestedClipsModel" 34 10 12 false (.int) := ⟨R_Md, F_Md, 50, t_Md, fo_Md, by decide, zk_5 201 rfl rfl, rfl, rfl, rfl⟩
theorem f_Md_38 : zFL "NestedClipsModel" 38 10 13 false (.int) := ⟨R_Md, F_Md, 50, t_Md, fo_Md, by decide, zk_5 202 rfl rfl, rfl, rfl, rfl⟩
theorem f_Md_230 : zFL "NestedClipsModel" 230 10 14 false (.int) := ⟨R_Md, F_Md, 50, t_Md, fo_Md, by decide, zk_5 203 rfl rfl, rfl, rfl, rfl⟩
theorem f_Md_233 : zFL "NestedClipsModel" 233 10 15 false (.int) := ⟨R_Md, F_Md, 50, t_Md, fo_Md, by decide, zk_5 204 rfl rfl, rfl, rfl, rfl⟩
theorem f_Md_210 : zFL "NestedClipsModel" 210 10 16 false (.int) := ⟨R_Md, F_Md, 50, t_Md, fo_Md, by decide, zk_5 205 rfl rfl, rfl, rfl, rfl⟩
theorem f_Md_207 : zFL "NestedClipsModel" 207 10 17 false (.int) := ⟨R_Md, F_Md, 50, t_Md, fo_Md, by decide, zk_5 206 rfl rfl, rfl, rfl, rfl⟩
theorem f_Md_213 : zFL "NestedClipsModel" 213 10 18 false (.int) := ⟨R_Md, F_Md, 50, t_Md, fo_Md, by decide, zk_5 207 rfl rfl, rfl, rfl, rfl⟩
theorem f_Md_227 : zFL "NestedClipsModel" 227 10 19 false (.int) := ⟨R_Md, F_Md, 50, t_Md, fo_Md, by decide, zk_5 208 rfl rfl, rfl, rfl, rfl⟩
theorem f_Md_204 : zFL "NestedClipsModel" 204 10 20 false (.int) := ⟨R_Md, F_Md, 50, t_Md, fo_Md, by decide, zk_5 209 rfl rfl, rfl, rfl, rfl⟩
theorem f_Md_219 : zFL "NestedClipsModel" 219 10 21 false (.long) := ⟨R_Md, F_Md, 50, t_Md, fo_Md, by decide, zk_5 210 rfl rfl, rfl, rfl, rfl⟩
theorem f_Md_73 : zFL "NestedClipsModel" 73 10 22 true (.array .long) := ⟨R_Md, F_Md, 50, t_Md, fo_Md, by decide, zk_5 211 rfl rfl, rfl, rfl, rfl⟩
theorem f_Md_76 : zFL "NestedClipsModel" 76 10 23 true (.array .long) := ⟨R_Md, F_Md, 50, t_Md, fo_Md, by decide, zk_5 212 rfl rfl, rfl, rfl, rfl⟩
theorem f_Md_79 : zFL "NestedClipsModel" 79 10 24 true (.array .long) := ⟨R_Md, F_Md, 50, t_Md, fo_Md, by decide, zk_5 213 rfl rfl, rfl, rfl, rfl⟩
theorem f_Md_82 : zFL "NestedClipsModel" 82 10 25 true (.array .int) := ⟨R_Md, F_Md, 50, t_Md, fo_Md, by decide, zk_5 214 rfl rfl, rfl, rfl, rfl⟩
theorem f_Md_85 : zFL "NestedClipsModel" 85 10 26 true (.array .int) := ⟨R_Md, F_Md, 50, t_Md, fo_Md, by decide, zk_5 215 rfl rfl, rfl, rfl, rfl⟩
theorem f_Md_88 : zFL "NestedClipsModel" 88 10 27 true (.array .int) := ⟨R_Md, F_Md, 50, t_Md, fo_Md, by decide, zk_5 216 rfl rfl, rfl, rfl, rfl⟩
theorem f_Md_91 : zFL "NestedClipsModel" 91 10 28 true (.array .long) := ⟨R_Md, F_Md, 50, t_Md, fo_Md, by decide, zk_5 217 rfl rfl, rfl, rfl, rfl⟩
theorem f_Md_94 : zFL "NestedClipsModel" 94 10 29 true (.array .long) := ⟨R_Md, F_Md, 50, t_Md, fo_Md, by decide, zk_5 218 rfl rfl, rfl, rfl, rfl⟩
theorem f_Md_97 : zFL "NestedClipsModel" 97 10 30 true (.array .long) := ⟨R_Md, F_Md, 50, t_Md, fo_Md, by decide, zk_5 219 rfl rfl, rfl, rfl, rfl⟩
theorem f_Md_100 : zFL "NestedClipsModel" 100 10 31 true (.array .int) := ⟨R_Md, F_Md, 50, t_Md, fo_Md, by decide, zk_5 220 rfl rfl, rfl, rfl, rfl⟩
theorem f_Md_103 : zFL "NestedClipsModel" 103 10 32 true (.array .int) := ⟨R_Md, F_Md, 50, t_Md, fo_Md, by decide, zk_5 221 rfl rfl, rfl, rfl, rfl⟩
theorem f_Md_106 : zFL "NestedClipsModel" 106 10 33 true (.array .int) := ⟨R_Md, F_Md, 50, t_Md, fo_Md, by decide, zk_5 222 rfl rfl, rfl, rfl, rfl⟩
theorem f_Md_109 : zFL "NestedClipsModel" 109 10 34 true (.array .int) := ⟨R_Md, F_Md, 50, t_Md, fo_Md, by decide, zk_5 223 rfl rfl, rfl, rfl, rfl⟩
theorem f_Md_403 : zFL "NestedClipsModel" 403 10 35 false (.int) := ⟨R_Md, F_Md, 50, t_Md, fo_Md, by decide, zk_5 224 rfl rfl, rfl, rfl, rfl⟩
theorem f_Md_409 : zFL "NestedClipsModel" 409 10 36 false (.int) := ⟨R_Md, F_Md, 50, t_Md, fo_Md, by decide, zk_5 225 rfl rfl, rfl, rfl, rfl⟩
theorem f_Md_112 : zFL "NestedClipsModel" 112 10 37 true (.array .int) := ⟨R_Md, F_Md, 50, t_Md, fo_Md, by decide, zk_5 226 rfl rfl, rfl, rfl, rfl⟩
theorem f_Md_115 : zFL "NestedClipsModel" 115 10 38 true (.array .int) := ⟨R_Md, F_Md, 50, t_Md, fo_Md, by decide, zk_5 227 rfl rfl, rfl, rfl, rfl⟩
theorem f_Md_118 : zFL "NestedClipsModel" 118 10 39 true (.array .int) := ⟨R_Md, F_Md, 50, t_Md, fo_Md, by decide, zk_5 228 rfl rfl, rfl, rfl, rfl⟩
theorem f_Md_121 : zFL "NestedClipsModel" 121 10 40 true (.array .int) := ⟨R_Md, F_Md, 50, t_Md, fo_Md, by decide, zk_5 229 rfl rfl, rfl, rfl, rfl⟩
theorem f_Md_124 : zFL "NestedClipsModel" 124 10 41 true (.array .boolean) := ⟨R_Md, F_Md, 50, t_Md, fo_Md, by decide, zk_5 230 rfl rfl, rfl, rfl, rfl⟩
theorem f_Md_127 : zFL "NestedClipsModel" 127 10 42 true (.array .long) := ⟨R_Md, F_Md, 50, t_Md, fo_Md, by decide, zk_5 231 rfl rfl, rfl, rfl, rfl⟩
theorem f_Md_433 : zFL "NestedClipsModel" 433 10 43 false (.int) := ⟨R_Md, F_Md, 50, t_Md, fo_Md, by decide, zk_5 232 rfl rfl, rfl, rfl, rfl⟩
theorem f_Md_430 : zFL "NestedClipsModel" 430 10 44 false (.int) := ⟨R_Md, F_Md, 50, t_Md, fo_Md, by decide, zk_5 233 rfl rfl, rfl, rfl, rfl⟩
theorem f_Md_130 : zFL "NestedClipsModel" 130 10 45 true (.array .int) := ⟨R_Md, F_Md, 50, t_Md, fo_Md, by decide, zk_5 234 rfl rfl, rfl, rfl, rfl⟩
theorem f_Md_133 : zFL "NestedClipsModel" 133 10 46 true (.array .int) := ⟨R_Md, F_Md, 50, t_Md, fo_Md, by decide, zk_5 235 rfl rfl, rfl, rfl, rfl⟩
theorem f_Md_136 : zFL "NestedClipsModel" 136 10 47 true (.array .int) := ⟨R_Md, F_Md, 50, t_Md, fo_Md, by decide, zk_5 236 rfl rfl, rfl, rfl, rfl⟩
theorem f_Md_139 : zFL "NestedClipsModel" 139 10 48 true (.array .int) := ⟨R_Md, F_Md, 50, t_Md, fo_Md, by decide, zk_5 237 rfl rfl, rfl, rfl, rfl⟩
theorem f_Md_310 : zFL "NestedClipsModel" 310 10 49 false (.int) := ⟨R_Md, F_Md, 50, t_Md, fo_Md, by decide, zk_5 238 rfl rfl, rfl, rfl, rfl⟩
theorem l_Lw_9 : Cond.methodLink "NestedClipsLaw" 9 y_Nc_init ∈ zT := zk_1 21 rfl rfl
theorem l_Nc_1 : Cond.methodLink "NestedClips" 1 y_Ob_init ∈ zT := zk_1 24 rfl rfl
theorem l_Sh_3 : Cond.methodLink "NestedClips$Show" 3 y_Ob_init ∈ zT := zk_1 32 rfl rfl
theorem l_La_3 : Cond.methodLink "NestedClips$Layout" 3 y_Ob_init ∈ zT := zk_1 100 rfl rfl
theorem l_Nc_31 : Cond.methodLink "NestedClips" 31 y_Sg_init ∈ zT := zk_1 135 rfl rfl
theorem l_Sg_3 : Cond.methodLink "NestedClips$Stage" 3 y_Ob_init ∈ zT := zk_1 138 rfl rfl
theorem l_Mo_3 : Cond.methodLink "NestedClips$Moment" 3 y_Ob_init ∈ zT := zk_1 144 rfl rfl
theorem l_Nc_40 : Cond.methodLink "NestedClips" 40 y_Sr_init ∈ zT := zk_1 221 rfl rfl
theorem l_Sr_3 : Cond.methodLink "NestedClips$Stretch" 3 y_Ob_init ∈ zT := zk_1 224 rfl rfl
theorem l_Nc_49 : Cond.methodLink "NestedClips" 49 y_Pa_init ∈ zT := zk_2 10 rfl rfl
theorem l_Pa_3 : Cond.methodLink "NestedClips$Past" 3 y_Ob_init ∈ zT := zk_2 13 rfl rfl
theorem l_Ta_3 : Cond.methodLink "NestedClips$Tape" 3 y_Ob_init ∈ zT := zk_2 33 rfl rfl
theorem l_Nc_63 : Cond.methodLink "NestedClips" 63 y_Rd_init ∈ zT := zk_2 45 rfl rfl
theorem l_Rd_5 : Cond.methodLink "NestedClips$Reader" 5 y_Ob_init ∈ zT := zk_2 48 rfl rfl
theorem l_Re_3 : Cond.methodLink "NestedClips$Reel" 3 y_Ob_init ∈ zT := zk_2 103 rfl rfl
theorem l_Nc_87 : Cond.methodLink "NestedClips" 87 y_Sg_prepare ∈ zT := zk_2 135 rfl rfl
theorem l_Sg_37 : Cond.methodLink "NestedClips$Stage" 37 y_La_measure ∈ zT := zk_2 139 rfl rfl
theorem l_La_40 : Cond.methodLink "NestedClips$Layout" 40 y_La_layOneBehindTheOther ∈ zT := zk_2 143 rfl rfl
theorem l_La_57 : Cond.methodLink "NestedClips$Layout" 57 y_Sh_childAt ∈ zT := zk_2 147 rfl rfl
theorem l_La_44 : Cond.methodLink "NestedClips$Layout" 44 y_La_layAtOnce ∈ zT := zk_2 151 rfl rfl
theorem l_La_63 : Cond.methodLink "NestedClips$Layout" 63 y_La_layInPar ∈ zT := zk_2 155 rfl rfl
theorem l_La_72 : Cond.methodLink "NestedClips$Layout" 72 y_Sh_startsByAnother ∈ zT := zk_2 159 rfl rfl
theorem l_La_67 : Cond.methodLink "NestedClips$Layout" 67 y_Ma_max ∈ zT := zk_2 163 rfl rfl
theorem l_La_47 : Cond.methodLink "NestedClips$Layout" 47 y_Sh_markOf ∈ zT := zk_2 166 rfl rfl
theorem l_La_51 : Cond.methodLink "NestedClips$Layout" 51 y_La_activeOf ∈ zT := zk_2 170 rfl rfl
theorem l_Sg_47 : Cond.methodLink "NestedClips$Stage" 47 y_Sg_standLeaves ∈ zT := zk_2 174 rfl rfl
theorem l_Sg_99 : Cond.methodLink "NestedClips$Stage" 99 y_Sh_markOf ∈ zT := zk_2 180 rfl rfl
theorem l_Sg_50 : Cond.methodLink "NestedClips$Stage" 50 y_Sg_sortPresses ∈ zT := zk_2 181 rfl rfl
theorem l_Sg_67 : Cond.methodLink "NestedClips$Stage" 67 y_Sg_fill ∈ zT := zk_2 185 rfl rfl
theorem l_Sg_102 : Cond.methodLink "NestedClips$Stage" 102 y_Mo_clear ∈ zT := zk_2 189 rfl rfl
theorem l_Sg_106 : Cond.methodLink "NestedClips$Stage" 106 y_Sg_fillClip ∈ zT := zk_2 193 rfl rfl
theorem l_Sg_112 : Cond.methodLink "NestedClips$Stage" 112 y_Mo_runs ∈ zT := zk_2 197 rfl rfl
theorem l_Sg_134 : Cond.methodLink "NestedClips$Stage" 134 y_Sg_begunByPress ∈ zT := zk_2 201 rfl rfl
theorem l_Sg_177 : Cond.methodLink "NestedClips$Stage" 177 y_Sg_samePasses ∈ zT := zk_2 205 rfl rfl
theorem l_Sg_147 : Cond.methodLink "NestedClips$Stage" 147 y_Sg_fillRunning ∈ zT := zk_2 209 rfl rfl
theorem l_Sg_116 : Cond.methodLink "NestedClips$Stage" 116 y_Sg_strengthOf ∈ zT := zk_2 213 rfl rfl
theorem l_Sg_162 : Cond.methodLink "NestedClips$Stage" 162 y_Ma_minL ∈ zT := zk_2 218 rfl rfl
theorem l_Sg_120 : Cond.methodLink "NestedClips$Stage" 120 y_Sg_shareLight ∈ zT := zk_2 221 rfl rfl
theorem l_Sg_71 : Cond.methodLink "NestedClips$Stage" 71 y_Ma_max ∈ zT := zk_2 225 rfl rfl
theorem l_Lw_13 : Cond.methodLink "NestedClipsLaw" 13 y_Nc_status ∈ zT := zk_3 26 rfl rfl
theorem l_Lw_18 : Cond.methodLink "NestedClipsLaw" 18 y_Nc_feed ∈ zT := zk_3 30 rfl rfl
theorem l_Nc_93 : Cond.methodLink "NestedClips" 93 y_Ta_putInt ∈ zT := zk_3 34 rfl rfl
theorem l_Lw_23 : Cond.methodLink "NestedClipsLaw" 23 y_Nc_load ∈ zT := zk_3 38 rfl rfl
theorem l_Nc_97 : Cond.methodLink "NestedClips" 97 y_Nc_refuse ∈ zT := zk_3 42 rfl rfl
theorem l_Nc_101 : Cond.methodLink "NestedClips" 101 y_Rd_read ∈ zT := zk_3 46 rfl rfl
theorem l_Rd_49 : Cond.methodLink "NestedClips$Reader" 49 y_Sh_empty ∈ zT := zk_3 50 rfl rfl
theorem l_Rd_54 : Cond.methodLink "NestedClips$Reader" 54 y_Rd_takeToken ∈ zT := zk_3 54 rfl rfl
theorem l_Rd_206 : Cond.methodLink "NestedClips$Reader" 206 y_Rd_isLetter ∈ zT := zk_3 58 rfl rfl
theorem l_Rd_209 : Cond.methodLink "NestedClips$Reader" 209 y_Rd_takeWord ∈ zT := zk_3 62 rfl rfl
theorem l_Rd_195 : Cond.methodLink "NestedClips$Reader" 195 y_Rd_withLetter ∈ zT := zk_3 66 rfl rfl
theorem l_Rd_212 : Cond.methodLink "NestedClips$Reader" 212 y_Rd_isDigit ∈ zT := zk_3 70 rfl rfl
theorem l_Rd_215 : Cond.methodLink "NestedClips$Reader" 215 y_Rd_takeNumber ∈ zT := zk_3 74 rfl rfl
theorem l_Rd_218 : Cond.methodLink "NestedClips$Reader" 218 y_Rd_takeSign ∈ zT := zk_3 80 rfl rfl
theorem l_Rd_57 : Cond.methodLink "NestedClips$Reader" 57 y_Rd_readClip ∈ zT := zk_3 84 rfl rfl
theorem l_Rd_96 : Cond.methodLink "NestedClips$Reader" 96 y_Rd_wordNumber ∈ zT := zk_3 88 rfl rfl
theorem l_Rd_187 : Cond.methodLink "NestedClips$Reader" 187 y_St_length ∈ zT := zk_3 93 rfl rfl
theorem l_St_335 : Cond.methodLink "java/lang/String" 335 y_St_coder ∈ zT := zk_3 97 rfl rfl
theorem l_Rd_191 : Cond.methodLink "NestedClips$Reader" 191 y_St_charAt ∈ zT := zk_3 103 rfl rfl
theorem l_St_492 : Cond.methodLink "java/lang/String" 492 y_St_isLatin1 ∈ zT := zk_3 107 rfl rfl
theorem l_St_495 : Cond.methodLink "java/lang/String" 495 y_L1_charAt ∈ zT := zk_3 111 rfl rfl
theorem l_L1_9 : Cond.methodLink "java/lang/StringLatin1" 9 y_St_checkIndex ∈ zT := zk_3 114 rfl rfl
theorem l_St_1059 : Cond.methodLink "java/lang/String" 1059 y_Pr_checkIndex ∈ zT := zk_3 119 rfl rfl
theorem l_St_498 : Cond.methodLink "java/lang/String" 498 y_U6_charAt ∈ zT := zk_3 122 rfl rfl
theorem l_U6_67 : Cond.methodLink "java/lang/StringUTF16" 67 y_U6_checkIndex ∈ zT := zk_3 125 rfl rfl
theorem l_U6_48 : Cond.methodLink "java/lang/StringUTF16" 48 y_U6_length ∈ zT := zk_3 128 rfl rfl
theorem l_U6_414 : Cond.methodLink "java/lang/StringUTF16" 414 y_St_checkIndex ∈ zT := zk_3 131 rfl rfl
theorem l_U6_71 : Cond.methodLink "java/lang/StringUTF16" 71 y_U6_getChar ∈ zT := zk_3 132 rfl rfl
theorem l_Rd_81 : Cond.methodLink "NestedClips$Reader" 81 y_Rd_cannotStand ∈ zT := zk_3 141 rfl rfl
theorem l_Rd_93 : Cond.methodLink "NestedClips$Reader" 93 y_Rd_failWith ∈ zT := zk_3 145 rfl rfl
theorem l_Rd_103 : Cond.methodLink "NestedClips$Reader" 103 y_Sh_howManyAroundNew ∈ zT := zk_3 149 rfl rfl
theorem l_Rd_107 : Cond.methodLink "NestedClips$Reader" 107 y_Sh_append ∈ zT := zk_3 153 rfl rfl
theorem l_Sh_66 : Cond.methodLink "NestedClips$Show" 66 y_Sh_howManyIn ∈ zT := zk_3 157 rfl rfl
theorem l_Sh_69 : Cond.methodLink "NestedClips$Show" 69 y_Sh_putStart ∈ zT := zk_3 161 rfl rfl
theorem l_Sh_76 : Cond.methodLink "NestedClips$Show" 76 y_Sh_putMark ∈ zT := zk_3 167 rfl rfl
theorem l_Rd_111 : Cond.methodLink "NestedClips$Reader" 111 y_Rd_readName ∈ zT := zk_3 171 rfl rfl
theorem l_Rd_114 : Cond.methodLink "NestedClips$Reader" 114 y_Rd_isName ∈ zT := zk_3 175 rfl rfl
theorem l_Rd_64 : Cond.methodLink "NestedClips$Reader" 64 y_Rd_readMark ∈ zT := zk_3 179 rfl rfl
theorem l_Rd_128 : Cond.methodLink "NestedClips$Reader" 128 y_Ma_min ∈ zT := zk_3 183 rfl rfl
theorem l_Rd_133 : Cond.methodLink "NestedClips$Reader" 133 y_Rd_readMarkNumber ∈ zT := zk_3 186 rfl rfl
theorem l_Rd_140 : Cond.methodLink "NestedClips$Reader" 140 y_Sh_putMark ∈ zT := zk_3 190 rfl rfl
theorem l_Rd_150 : Cond.methodLink "NestedClips$Reader" 150 y_Rd_mayBeNumber ∈ zT := zk_3 194 rfl rfl
theorem l_Rd_137 : Cond.methodLink "NestedClips$Reader" 137 y_Rd_readStart ∈ zT := zk_3 198 rfl rfl
theorem l_Rd_153 : Cond.methodLink "NestedClips$Reader" 153 y_Sh_isInPar ∈ zT := zk_3 202 rfl rfl
theorem l_Rd_156 : Cond.methodLink "NestedClips$Reader" 156 y_Sh_putStart ∈ zT := zk_3 206 rfl rfl
theorem l_Rd_68 : Cond.methodLink "NestedClips$Reader" 68 y_Rd_readSign ∈ zT := zk_3 207 rfl rfl
theorem l_Rd_71 : Cond.methodLink "NestedClips$Reader" 71 y_Rd_isSign ∈ zT := zk_3 211 rfl rfl
theorem l_Rd_75 : Cond.methodLink "NestedClips$Reader" 75 y_Rd_closeClip ∈ zT := zk_3 215 rfl rfl
theorem l_Rd_160 : Cond.methodLink "NestedClips$Reader" 160 y_Rd_findOthers ∈ zT := zk_3 219 rfl rfl
theorem l_Rd_169 : Cond.methodLink "NestedClips$Reader" 169 y_Sh_startsByAnother ∈ zT := zk_3 223 rfl rfl
theorem l_Rd_172 : Cond.methodLink "NestedClips$Reader" 172 y_Rd_namedInOpen ∈ zT := zk_3 224 rfl rfl
theorem l_Rd_163 : Cond.methodLink "NestedClips$Reader" 163 y_Rd_hasRing ∈ zT := zk_3 228 rfl rfl
theorem l_Rd_179 : Cond.methodLink "NestedClips$Reader" 179 y_Sh_startLeadsTo ∈ zT := zk_3 232 rfl rfl
theorem l_Sh_52 : Cond.methodLink "NestedClips$Show" 52 y_Sh_startsByAnother ∈ zT := zk_3 236 rfl rfl
theorem l_Rd_78 : Cond.methodLink "NestedClips$Reader" 78 y_Rd_readEnd ∈ zT := zk_3 237 rfl rfl
theorem l_Rd_84 : Cond.methodLink "NestedClips$Reader" 84 y_La_measure ∈ zT := zk_4 1 rfl rfl
theorem l_Nc_108 : Cond.methodLink "NestedClips" 108 y_Re_rewind ∈ zT := zk_4 2 rfl rfl
theorem l_Nc_114 : Cond.methodLink "NestedClips" 114 y_Nc_act ∈ zT := zk_4 6 rfl rfl
theorem l_Nc_352 : Cond.methodLink "NestedClips" 352 y_Nc_draftLasts ∈ zT := zk_4 10 rfl rfl
theorem l_Nc_370 : Cond.methodLink "NestedClips" 370 y_La_measure ∈ zT := zk_4 14 rfl rfl
theorem l_Nc_367 : Cond.methodLink "NestedClips" 367 y_Pa_keep ∈ zT := zk_4 15 rfl rfl
theorem l_Pa_22 : Cond.methodLink "NestedClips$Past" 22 y_Sh_copyFrom ∈ zT := zk_4 19 rfl rfl
theorem l_Pa_29 : Cond.methodLink "NestedClips$Past" 29 y_Ma_min ∈ zT := zk_4 26 rfl rfl
theorem l_Nc_128 : Cond.methodLink "NestedClips" 128 y_Sh_copyFrom ∈ zT := zk_4 27 rfl rfl
theorem l_Nc_208 : Cond.methodLink "NestedClips" 208 y_Nc_give ∈ zT := zk_4 28 rfl rfl
theorem l_Lw_28 : Cond.methodLink "NestedClipsLaw" 28 y_Nc_fault ∈ zT := zk_4 33 rfl rfl
theorem l_Lw_32 : Cond.methodLink "NestedClipsLaw" 32 y_Nc_add ∈ zT := zk_4 37 rfl rfl
theorem l_Nc_117 : Cond.methodLink "NestedClips" 117 y_Sh_has ∈ zT := zk_4 41 rfl rfl
theorem l_Nc_121 : Cond.methodLink "NestedClips" 121 y_Sh_howManyAroundNew ∈ zT := zk_4 45 rfl rfl
theorem l_Nc_132 : Cond.methodLink "NestedClips" 132 y_Sh_append ∈ zT := zk_4 46 rfl rfl
theorem l_Lw_37 : Cond.methodLink "NestedClipsLaw" 37 y_Nc_lose ∈ zT := zk_4 47 rfl rfl
theorem l_Nc_136 : Cond.methodLink "NestedClips" 136 y_Sh_startsAnother ∈ zT := zk_4 51 rfl rfl
theorem l_Nc_139 : Cond.methodLink "NestedClips" 139 y_Sh_drop ∈ zT := zk_4 55 rfl rfl
theorem l_Sh_80 : Cond.methodLink "NestedClips$Show" 80 y_Sh_bitsWithin ∈ zT := zk_4 59 rfl rfl
theorem l_Sh_83 : Cond.methodLink "NestedClips$Show" 83 y_Sh_copyClip ∈ zT := zk_4 63 rfl rfl
theorem l_Sh_86 : Cond.methodLink "NestedClips$Show" 86 y_Sh_renumbered ∈ zT := zk_4 67 rfl rfl
theorem l_Sh_60 : Cond.methodLink "NestedClips$Show" 60 y_In_bitCount ∈ zT := zk_4 70 rfl rfl
theorem l_Lw_41 : Cond.methodLink "NestedClipsLaw" 41 y_Nc_move ∈ zT := zk_4 76 rfl rfl
theorem l_Nc_145 : Cond.methodLink "NestedClips" 145 y_Sh_howManyIn ∈ zT := zk_4 80 rfl rfl
theorem l_Nc_150 : Cond.methodLink "NestedClips" 150 y_Sh_shift ∈ zT := zk_4 81 rfl rfl
theorem l_Lw_45 : Cond.methodLink "NestedClipsLaw" 45 y_Nc_mark ∈ zT := zk_4 85 rfl rfl
theorem l_Nc_160 : Cond.methodLink "NestedClips" 160 y_Sh_markOf ∈ zT := zk_4 91 rfl rfl
theorem l_Nc_163 : Cond.methodLink "NestedClips" 163 y_Sh_putMark ∈ zT := zk_4 92 rfl rfl
theorem l_Lw_50 : Cond.methodLink "NestedClipsLaw" 50 y_Nc_start ∈ zT := zk_4 93 rfl rfl
theorem l_Nc_176 : Cond.methodLink "NestedClips" 176 y_Sh_isInPar ∈ zT := zk_4 97 rfl rfl
theorem l_Nc_179 : Cond.methodLink "NestedClips" 179 y_Sh_startLeadsTo ∈ zT := zk_4 98 rfl rfl
theorem l_Nc_183 : Cond.methodLink "NestedClips" 183 y_Sh_putStart ∈ zT := zk_4 99 rfl rfl
theorem l_Lw_55 : Cond.methodLink "NestedClipsLaw" 55 y_Nc_press ∈ zT := zk_4 100 rfl rfl
theorem l_Nc_187 : Cond.methodLink "NestedClips" 187 y_Nc_isTime ∈ zT := zk_4 104 rfl rfl
theorem l_Nc_193 : Cond.methodLink "NestedClips" 193 y_Sh_hasPress ∈ zT := zk_4 107 rfl rfl
theorem l_Nc_196 : Cond.methodLink "NestedClips" 196 y_Sh_appendPress ∈ zT := zk_4 111 rfl rfl
theorem l_Lw_59 : Cond.methodLink "NestedClipsLaw" 59 y_Nc_unpress ∈ zT := zk_4 115 rfl rfl
theorem l_Nc_199 : Cond.methodLink "NestedClips" 199 y_Sh_dropPress ∈ zT := zk_4 119 rfl rfl
theorem l_Lw_63 : Cond.methodLink "NestedClipsLaw" 63 y_Nc_undo ∈ zT := zk_4 123 rfl rfl
theorem l_Nc_205 : Cond.methodLink "NestedClips" 205 y_Pa_bringBack ∈ zT := zk_4 127 rfl rfl
theorem l_Lw_67 : Cond.methodLink "NestedClipsLaw" 67 y_Nc_many ∈ zT := zk_4 131 rfl rfl
theorem l_Nc_211 : Cond.methodLink "NestedClips" 211 y_Sh_leaves ∈ zT := zk_4 135 rfl rfl
theorem l_Sh_56 : Cond.methodLink "NestedClips$Show" 56 y_Sh_bitsOfLeaves ∈ zT := zk_4 139 rfl rfl
theorem l_Nc_221 : Cond.methodLink "NestedClips" 221 y_La_howManyOpen ∈ zT := zk_4 143 rfl rfl
theorem l_Nc_224 : Cond.methodLink "NestedClips" 224 y_Nc_changes ∈ zT := zk_4 147 rfl rfl
theorem l_Nc_255 : Cond.methodLink "NestedClips" 255 y_Sg_at ∈ zT := zk_4 151 rfl rfl
theorem l_Sg_77 : Cond.methodLink "NestedClips$Stage" 77 y_Ma_min ∈ zT := zk_4 155 rfl rfl
theorem l_Nc_334 : Cond.methodLink "NestedClips" 334 y_Mo_allStates ∈ zT := zk_4 156 rfl rfl
theorem l_Lw_71 : Cond.methodLink "NestedClipsLaw" 71 y_Nc_clip ∈ zT := zk_4 161 rfl rfl
theorem l_Lw_75 : Cond.methodLink "NestedClipsLaw" 75 y_Nc_within ∈ zT := zk_4 165 rfl rfl
theorem l_Nc_240 : Cond.methodLink "NestedClips" 240 y_Sh_childAt ∈ zT := zk_4 169 rfl rfl
theorem l_Lw_79 : Cond.methodLink "NestedClipsLaw" 79 y_Nc_begin ∈ zT := zk_4 170 rfl rfl
theorem l_Lw_83 : Cond.methodLink "NestedClipsLaw" 83 y_Nc_pressed ∈ zT := zk_4 174 rfl rfl
theorem l_Lw_87 : Cond.methodLink "NestedClipsLaw" 87 y_Nc_state ∈ zT := zk_4 178 rfl rfl
theorem l_Nc_252 : Cond.methodLink "NestedClips" 252 y_Nc_whyNotAt ∈ zT := zk_4 182 rfl rfl
theorem l_Lw_91 : Cond.methodLink "NestedClipsLaw" 91 y_Nc_local ∈ zT := zk_4 186 rfl rfl
theorem l_Nc_264 : Cond.methodLink "NestedClips" 264 y_Nc_whyNotRunning ∈ zT := zk_4 190 rfl rfl
theorem l_Nc_373 : Cond.methodLink "NestedClips" 373 y_Mo_runs ∈ zT := zk_4 194 rfl rfl
theorem l_Lw_95 : Cond.methodLink "NestedClipsLaw" 95 y_Nc_pass ∈ zT := zk_4 195 rfl rfl
theorem l_Lw_99 : Cond.methodLink "NestedClipsLaw" 99 y_Nc_playing ∈ zT := zk_4 199 rfl rfl
theorem l_Nc_273 : Cond.methodLink "NestedClips" 273 y_Mo_bitsOf ∈ zT := zk_4 203 rfl rfl
theorem l_Lw_104 : Cond.methodLink "NestedClipsLaw" 104 y_Nc_known ∈ zT := zk_4 207 rfl rfl
theorem l_Lw_108 : Cond.methodLink "NestedClipsLaw" 108 y_Nc_strength ∈ zT := zk_4 211 rfl rfl
theorem l_Lw_112 : Cond.methodLink "NestedClipsLaw" 112 y_Nc_share ∈ zT := zk_4 215 rfl rfl
theorem l_Lw_116 : Cond.methodLink "NestedClipsLaw" 116 y_Nc_dark ∈ zT := zk_4 219 rfl rfl
theorem l_Lw_120 : Cond.methodLink "NestedClipsLaw" 120 y_Nc_top ∈ zT := zk_4 223 rfl rfl
theorem l_Nc_286 : Cond.methodLink "NestedClips" 286 y_Sg_topAt ∈ zT := zk_4 227 rfl rfl
theorem l_Sg_83 : Cond.methodLink "NestedClips$Stage" 83 y_Sg_at ∈ zT := zk_4 231 rfl rfl
theorem l_Lw_124 : Cond.methodLink "NestedClipsLaw" 124 y_Nc_seen ∈ zT := zk_4 232 rfl rfl
theorem l_Nc_289 : Cond.methodLink "NestedClips" 289 y_Nc_whyNoLeaf ∈ zT := zk_4 236 rfl rfl
theorem l_Lw_128 : Cond.methodLink "NestedClipsLaw" 128 y_Nc_brightest ∈ zT := zk_5 0 rfl rfl
theorem l_Lw_132 : Cond.methodLink "NestedClipsLaw" 132 y_Nc_hidden ∈ zT := zk_5 4 rfl rfl
theorem l_Nc_292 : Cond.methodLink "NestedClips" 292 y_Mo_bitsOfSeen ∈ zT := zk_5 8 rfl rfl
theorem l_Nc_295 : Cond.methodLink "NestedClips" 295 y_Sh_bitsOfLeaves ∈ zT := zk_5 12 rfl rfl
theorem l_Lw_136 : Cond.methodLink "NestedClipsLaw" 136 y_Nc_pieces ∈ zT := zk_5 13 rfl rfl
theorem l_Nc_298 : Cond.methodLink "NestedClips" 298 y_Sr_countPieces ∈ zT := zk_5 17 rfl rfl
theorem l_Sr_19 : Cond.methodLink "NestedClips$Stretch" 19 y_Sr_walk ∈ zT := zk_5 21 rfl rfl
theorem l_Sr_30 : Cond.methodLink "NestedClips$Stretch" 30 y_Sg_at ∈ zT := zk_5 25 rfl rfl
theorem l_Sr_44 : Cond.methodLink "NestedClips$Stretch" 44 y_Mo_playedLocal ∈ zT := zk_5 26 rfl rfl
theorem l_Sr_52 : Cond.methodLink "NestedClips$Stretch" 52 y_Sr_keepsStep ∈ zT := zk_5 30 rfl rfl
theorem l_Lw_140 : Cond.methodLink "NestedClipsLaw" 140 y_Nc_piece ∈ zT := zk_5 34 rfl rfl
theorem l_Nc_301 : Cond.methodLink "NestedClips" 301 y_Sr_findPiece ∈ zT := zk_5 38 rfl rfl
theorem l_Lw_144 : Cond.methodLink "NestedClipsLaw" 144 y_Nc_reach ∈ zT := zk_5 42 rfl rfl
theorem l_Nc_315 : Cond.methodLink "NestedClips" 315 y_Sr_firstTimeAt ∈ zT := zk_5 46 rfl rfl
theorem l_Lw_148 : Cond.methodLink "NestedClipsLaw" 148 y_Nc_spans ∈ zT := zk_5 50 rfl rfl
theorem l_Nc_318 : Cond.methodLink "NestedClips" 318 y_Sr_countSpans ∈ zT := zk_5 54 rfl rfl
theorem l_Lw_152 : Cond.methodLink "NestedClipsLaw" 152 y_Nc_span ∈ zT := zk_5 58 rfl rfl
theorem l_Nc_321 : Cond.methodLink "NestedClips" 321 y_Sr_findSpan ∈ zT := zk_5 62 rfl rfl
theorem l_Nc_324 : Cond.methodLink "NestedClips" 324 y_Sr_unlikeLocals ∈ zT := zk_5 66 rfl rfl
theorem l_Sr_48 : Cond.methodLink "NestedClips$Stretch" 48 y_Sr_sortRow ∈ zT := zk_5 70 rfl rfl
theorem l_Lw_156 : Cond.methodLink "NestedClipsLaw" 156 y_Nc_ticks ∈ zT := zk_5 76 rfl rfl
theorem l_Nc_328 : Cond.methodLink "NestedClips" 328 y_Nc_timesOfBoth ∈ zT := zk_5 80 rfl rfl
theorem l_Lw_160 : Cond.methodLink "NestedClipsLaw" 160 y_Nc_both ∈ zT := zk_5 84 rfl rfl
theorem l_Lw_164 : Cond.methodLink "NestedClipsLaw" 164 y_Nc_when ∈ zT := zk_5 88 rfl rfl
theorem l_Nc_331 : Cond.methodLink "NestedClips" 331 y_Mo_playedLocal ∈ zT := zk_5 92 rfl rfl
theorem l_Lw_168 : Cond.methodLink "NestedClipsLaw" 168 y_Nc_frames ∈ zT := zk_5 93 rfl rfl
theorem l_Lw_172 : Cond.methodLink "NestedClipsLaw" 172 y_Nc_next ∈ zT := zk_5 97 rfl rfl
theorem l_Lw_176 : Cond.methodLink "NestedClipsLaw" 176 y_Nc_most ∈ zT := zk_5 101 rfl rfl
theorem l_Nc_338 : Cond.methodLink "NestedClips" 338 y_Nc_leavesPlaying ∈ zT := zk_5 105 rfl rfl
theorem l_Nc_341 : Cond.methodLink "NestedClips" 341 y_In_bitCount ∈ zT := zk_5 109 rfl rfl
theorem l_Lw_180 : Cond.methodLink "NestedClipsLaw" 180 y_Nc_gaps ∈ zT := zk_5 110 rfl rfl
theorem l_Lw_184 : Cond.methodLink "NestedClipsLaw" 184 y_Nc_fit ∈ zT := zk_5 114 rfl rfl
theorem l_Nc_346 : Cond.methodLink "NestedClips" 346 y_Nc_leastRate ∈ zT := zk_5 118 rfl rfl
theorem l_Nc_376 : Cond.methodLink "NestedClips" 376 y_Nc_lastsWithMark ∈ zT := zk_5 122 rfl rfl
theorem l_Nc_349 : Cond.methodLink "NestedClips" 349 y_Nc_leastMark ∈ zT := zk_5 126 rfl rfl
theorem l_Lw_188 : Cond.methodLink "NestedClipsLaw" 188 y_Nc_slack ∈ zT := zk_5 130 rfl rfl
theorem l_Lw_192 : Cond.methodLink "NestedClipsLaw" 192 y_Nc_seek ∈ zT := zk_5 134 rfl rfl
theorem l_Lw_196 : Cond.methodLink "NestedClipsLaw" 196 y_Nc_play ∈ zT := zk_5 138 rfl rfl
theorem l_Nc_355 : Cond.methodLink "NestedClips" 355 y_Re_goOn ∈ zT := zk_5 142 rfl rfl
theorem l_Re_38 : Cond.methodLink "NestedClips$Reel" 38 y_Sg_at ∈ zT := zk_5 146 rfl rfl
theorem l_Re_44 : Cond.methodLink "NestedClips$Reel" 44 y_Sg_clips ∈ zT := zk_5 147 rfl rfl
theorem l_Re_48 : Cond.methodLink "NestedClips$Reel" 48 y_Re_remember ∈ zT := zk_5 151 rfl rfl
theorem l_Re_52 : Cond.methodLink "NestedClips$Reel" 52 y_Re_noteEvent ∈ zT := zk_5 155 rfl rfl
theorem l_Re_64 : Cond.methodLink "NestedClips$Reel" 64 y_Re_keepEvent ∈ zT := zk_5 159 rfl rfl
theorem l_Lw_200 : Cond.methodLink "NestedClipsLaw" 200 y_Nc_event ∈ zT := zk_5 163 rfl rfl
theorem l_Lw_12 : Cond.methodLink "NestedClipsLaw" 12 y_Md_init ∈ zT := zk_5 169 rfl rfl
theorem l_Md_1 : Cond.methodLink "NestedClipsModel" 1 y_Ob_init ∈ zT := zk_5 172 rfl rfl
theorem l_Lw_17 : Cond.methodLink "NestedClipsLaw" 17 y_Md_status ∈ zT := zk_6 100 rfl rfl
theorem l_Lw_22 : Cond.methodLink "NestedClipsLaw" 22 y_Md_feed ∈ zT := zk_6 104 rfl rfl
theorem l_Md_201 : Cond.methodLink "NestedClipsModel" 201 y_Md_lays ∈ zT := zk_6 108 rfl rfl
theorem l_Lw_27 : Cond.methodLink "NestedClipsLaw" 27 y_Md_load ∈ zT := zk_6 112 rfl rfl
theorem l_Md_152 : Cond.methodLink "NestedClipsModel" 152 y_Md_isIn ∈ zT := zk_6 116 rfl rfl
theorem l_Md_295 : Cond.methodLink "NestedClipsModel" 295 y_Md_refuse ∈ zT := zk_6 119 rfl rfl
theorem l_Md_298 : Cond.methodLink "NestedClipsModel" 298 y_Md_isShow ∈ zT := zk_6 123 rfl rfl
theorem l_Md_247 : Cond.methodLink "NestedClipsModel" 247 y_Md_reads ∈ zT := zk_6 127 rfl rfl
theorem l_Md_216 : Cond.methodLink "NestedClipsModel" 216 y_Md_isOf ∈ zT := zk_6 131 rfl rfl
theorem l_Md_278 : Cond.methodLink "NestedClipsModel" 278 y_Md_readsClip ∈ zT := zk_6 137 rfl rfl
theorem l_Md_250 : Cond.methodLink "NestedClipsModel" 250 y_Md_key ∈ zT := zk_6 141 rfl rfl
theorem l_Md_243 : Cond.methodLink "NestedClipsModel" 243 y_Md_wants ∈ zT := zk_6 145 rfl rfl
theorem l_Md_236 : Cond.methodLink "NestedClipsModel" 236 y_Md_fails ∈ zT := zk_6 149 rfl rfl
theorem l_Md_263 : Cond.methodLink "NestedClipsModel" 263 y_Md_depth ∈ zT := zk_6 153 rfl rfl
theorem l_Md_266 : Cond.methodLink "NestedClipsModel" 266 y_Md_begins ∈ zT := zk_6 157 rfl rfl
theorem l_Md_269 : Cond.methodLink "NestedClipsModel" 269 y_Md_readsName ∈ zT := zk_6 161 rfl rfl
theorem l_Md_259 : Cond.methodLink "NestedClipsModel" 259 y_Md_isName ∈ zT := zk_6 165 rfl rfl
theorem l_Md_272 : Cond.methodLink "NestedClipsModel" 272 y_Md_readsMark ∈ zT := zk_6 169 rfl rfl
theorem l_Md_253 : Cond.methodLink "NestedClipsModel" 253 y_Md_takesNumber ∈ zT := zk_6 173 rfl rfl
theorem l_Md_256 : Cond.methodLink "NestedClipsModel" 256 y_Md_readsStart ∈ zT := zk_6 177 rfl rfl
theorem l_Md_275 : Cond.methodLink "NestedClipsModel" 275 y_Md_sign ∈ zT := zk_6 181 rfl rfl
theorem l_Md_239 : Cond.methodLink "NestedClipsModel" 239 y_Md_isSign ∈ zT := zk_6 185 rfl rfl
theorem l_Md_281 : Cond.methodLink "NestedClipsModel" 281 y_Md_binds ∈ zT := zk_6 189 rfl rfl
theorem l_Md_284 : Cond.methodLink "NestedClipsModel" 284 y_Md_isByOther ∈ zT := zk_6 193 rfl rfl
theorem l_Md_288 : Cond.methodLink "NestedClipsModel" 288 y_Md_namedIn ∈ zT := zk_6 197 rfl rfl
theorem l_Md_292 : Cond.methodLink "NestedClipsModel" 292 y_Md_isRound ∈ zT := zk_6 201 rfl rfl
theorem l_Md_301 : Cond.methodLink "NestedClipsModel" 301 y_Md_swaps ∈ zT := zk_6 205 rfl rfl
theorem l_Md_163 : Cond.methodLink "NestedClipsModel" 163 y_Md_lasts ∈ zT := zk_6 209 rfl rfl
theorem l_Md_195 : Cond.methodLink "NestedClipsModel" 195 y_Md_laysAll ∈ zT := zk_6 213 rfl rfl
theorem l_Md_148 : Cond.methodLink "NestedClipsModel" 148 y_Md_clips ∈ zT := zk_6 217 rfl rfl
theorem l_Md_182 : Cond.methodLink "NestedClipsModel" 182 y_Md_kind ∈ zT := zk_6 222 rfl rfl
theorem l_Md_185 : Cond.methodLink "NestedClipsModel" 185 y_Md_laysHeap ∈ zT := zk_6 226 rfl rfl
theorem l_Md_169 : Cond.methodLink "NestedClipsModel" 169 y_Md_around ∈ zT := zk_6 230 rfl rfl
theorem l_Md_189 : Cond.methodLink "NestedClipsModel" 189 y_Md_laysRow ∈ zT := zk_6 234 rfl rfl
theorem l_Md_173 : Cond.methodLink "NestedClipsModel" 173 y_Md_manyIn ∈ zT := zk_6 238 rfl rfl
theorem l_Md_176 : Cond.methodLink "NestedClipsModel" 176 y_Md_inPlace ∈ zT := zk_7 2 rfl rfl
theorem l_Md_192 : Cond.methodLink "NestedClipsModel" 192 y_Md_marked ∈ zT := zk_7 6 rfl rfl
theorem l_Md_304 : Cond.methodLink "NestedClipsModel" 304 y_Md_stays ∈ zT := zk_7 11 rfl rfl
theorem l_Md_159 : Cond.methodLink "NestedClipsModel" 159 y_Md_copy ∈ zT := zk_7 15 rfl rfl
theorem l_Lw_31 : Cond.methodLink "NestedClipsLaw" 31 y_Md_fault ∈ zT := zk_7 19 rfl rfl
theorem l_Lw_36 : Cond.methodLink "NestedClipsLaw" 36 y_Md_add ∈ zT := zk_7 23 rfl rfl
theorem l_Md_313 : Cond.methodLink "NestedClipsModel" 313 y_Md_isClip ∈ zT := zk_7 27 rfl rfl
theorem l_Md_316 : Cond.methodLink "NestedClipsModel" 316 y_Md_depthNow ∈ zT := zk_7 31 rfl rfl
theorem l_Md_319 : Cond.methodLink "NestedClipsModel" 319 y_Md_copyClip ∈ zT := zk_7 35 rfl rfl
theorem l_Md_323 : Cond.methodLink "NestedClipsModel" 323 y_Md_keeps ∈ zT := zk_7 39 rfl rfl
theorem l_Lw_40 : Cond.methodLink "NestedClipsLaw" 40 y_Md_lose ∈ zT := zk_7 43 rfl rfl
theorem l_Md_326 : Cond.methodLink "NestedClipsModel" 326 y_Md_isWithin ∈ zT := zk_7 47 rfl rfl
theorem l_Md_329 : Cond.methodLink "NestedClipsModel" 329 y_Md_numberBehind ∈ zT := zk_7 51 rfl rfl
theorem l_Lw_44 : Cond.methodLink "NestedClipsLaw" 44 y_Md_move ∈ zT := zk_7 55 rfl rfl
theorem l_Md_332 : Cond.methodLink "NestedClipsModel" 332 y_Md_tries ∈ zT := zk_7 59 rfl rfl
theorem l_Md_335 : Cond.methodLink "NestedClipsModel" 335 y_Md_takesBack ∈ zT := zk_7 63 rfl rfl
theorem l_Lw_49 : Cond.methodLink "NestedClipsLaw" 49 y_Md_mark ∈ zT := zk_7 67 rfl rfl
theorem l_Md_338 : Cond.methodLink "NestedClipsModel" 338 y_Md_canBe ∈ zT := zk_7 71 rfl rfl
theorem l_Lw_54 : Cond.methodLink "NestedClipsLaw" 54 y_Md_start ∈ zT := zk_7 74 rfl rfl
theorem l_Md_341 : Cond.methodLink "NestedClipsModel" 341 y_Md_isInHeap ∈ zT := zk_7 78 rfl rfl
theorem l_Lw_58 : Cond.methodLink "NestedClipsLaw" 58 y_Md_press ∈ zT := zk_7 82 rfl rfl
theorem l_Lw_62 : Cond.methodLink "NestedClipsLaw" 62 y_Md_unpress ∈ zT := zk_7 86 rfl rfl
theorem l_Lw_66 : Cond.methodLink "NestedClipsLaw" 66 y_Md_undo ∈ zT := zk_7 90 rfl rfl
theorem l_Lw_70 : Cond.methodLink "NestedClipsLaw" 70 y_Md_many ∈ zT := zk_7 94 rfl rfl
theorem l_Md_381 : Cond.methodLink "NestedClipsModel" 381 y_Md_leaves ∈ zT := zk_7 98 rfl rfl
theorem l_Md_384 : Cond.methodLink "NestedClipsModel" 384 y_Md_opensMany ∈ zT := zk_7 102 rfl rfl
theorem l_Md_387 : Cond.methodLink "NestedClipsModel" 387 y_Md_changes ∈ zT := zk_7 106 rfl rfl
theorem l_Md_375 : Cond.methodLink "NestedClipsModel" 375 y_Md_laysPresses ∈ zT := zk_7 110 rfl rfl
theorem l_Md_369 : Cond.methodLink "NestedClipsModel" 369 y_Md_sortsPresses ∈ zT := zk_7 114 rfl rfl
theorem l_Md_372 : Cond.methodLink "NestedClipsModel" 372 y_Md_laysSlot ∈ zT := zk_7 118 rfl rfl
theorem l_Md_365 : Cond.methodLink "NestedClipsModel" 365 y_Md_laysClip ∈ zT := zk_7 123 rfl rfl
theorem l_Md_353 : Cond.methodLink "NestedClipsModel" 353 y_Md_beginAt ∈ zT := zk_7 127 rfl rfl
theorem l_Md_349 : Cond.methodLink "NestedClipsModel" 349 y_Md_byPress ∈ zT := zk_7 131 rfl rfl
theorem l_Md_344 : Cond.methodLink "NestedClipsModel" 344 y_Md_samePasses ∈ zT := zk_7 135 rfl rfl
theorem l_Md_356 : Cond.methodLink "NestedClipsModel" 356 y_Md_strengthBy ∈ zT := zk_7 139 rfl rfl
theorem l_Md_361 : Cond.methodLink "NestedClipsModel" 361 y_Md_least ∈ zT := zk_7 144 rfl rfl
theorem l_Md_378 : Cond.methodLink "NestedClipsModel" 378 y_Md_isChange ∈ zT := zk_7 147 rfl rfl
theorem l_Lw_74 : Cond.methodLink "NestedClipsLaw" 74 y_Md_clip ∈ zT := zk_7 151 rfl rfl
theorem l_Lw_78 : Cond.methodLink "NestedClipsLaw" 78 y_Md_within ∈ zT := zk_7 155 rfl rfl
theorem l_Lw_82 : Cond.methodLink "NestedClipsLaw" 82 y_Md_begin ∈ zT := zk_7 159 rfl rfl
theorem l_Lw_86 : Cond.methodLink "NestedClipsLaw" 86 y_Md_pressed ∈ zT := zk_7 163 rfl rfl
theorem l_Lw_90 : Cond.methodLink "NestedClipsLaw" 90 y_Md_state ∈ zT := zk_7 167 rfl rfl
theorem l_Md_390 : Cond.methodLink "NestedClipsModel" 390 y_Md_asks ∈ zT := zk_7 171 rfl rfl
theorem l_Md_393 : Cond.methodLink "NestedClipsModel" 393 y_Md_stateOf ∈ zT := zk_7 175 rfl rfl
theorem l_Lw_94 : Cond.methodLink "NestedClipsLaw" 94 y_Md_local ∈ zT := zk_7 179 rfl rfl
theorem l_Md_396 : Cond.methodLink "NestedClipsModel" 396 y_Md_localOf ∈ zT := zk_7 183 rfl rfl
theorem l_Lw_98 : Cond.methodLink "NestedClipsLaw" 98 y_Md_pass ∈ zT := zk_7 187 rfl rfl
theorem l_Lw_103 : Cond.methodLink "NestedClipsLaw" 103 y_Md_playing ∈ zT := zk_7 191 rfl rfl
theorem l_Md_400 : Cond.methodLink "NestedClipsModel" 400 y_Md_setOf ∈ zT := zk_7 195 rfl rfl
theorem l_Lw_107 : Cond.methodLink "NestedClipsLaw" 107 y_Md_known ∈ zT := zk_7 199 rfl rfl
theorem l_Lw_111 : Cond.methodLink "NestedClipsLaw" 111 y_Md_strength ∈ zT := zk_7 203 rfl rfl
theorem l_Lw_115 : Cond.methodLink "NestedClipsLaw" 115 y_Md_share ∈ zT := zk_7 207 rfl rfl
theorem l_Md_412 : Cond.methodLink "NestedClipsModel" 412 y_Md_laysStanding ∈ zT := zk_7 211 rfl rfl
theorem l_Md_406 : Cond.methodLink "NestedClipsModel" 406 y_Md_standsAhead ∈ zT := zk_7 215 rfl rfl
theorem l_Md_415 : Cond.methodLink "NestedClipsModel" 415 y_Md_laysShares ∈ zT := zk_7 219 rfl rfl
theorem l_Lw_119 : Cond.methodLink "NestedClipsLaw" 119 y_Md_dark ∈ zT := zk_7 223 rfl rfl
theorem l_Md_418 : Cond.methodLink "NestedClipsModel" 418 y_Md_asksLight ∈ zT := zk_7 227 rfl rfl
theorem l_Lw_123 : Cond.methodLink "NestedClipsLaw" 123 y_Md_top ∈ zT := zk_7 231 rfl rfl
theorem l_Lw_127 : Cond.methodLink "NestedClipsLaw" 127 y_Md_seen ∈ zT := zk_7 235 rfl rfl
theorem l_Md_427 : Cond.methodLink "NestedClipsModel" 427 y_Md_asksLeaf ∈ zT := zk_7 239 rfl rfl
theorem l_Md_424 : Cond.methodLink "NestedClipsModel" 424 y_Md_laysLights ∈ zT := zk_8 3 rfl rfl
theorem l_Md_421 : Cond.methodLink "NestedClipsModel" 421 y_Md_plays ∈ zT := zk_8 7 rfl rfl
theorem l_Lw_131 : Cond.methodLink "NestedClipsLaw" 131 y_Md_brightest ∈ zT := zk_8 11 rfl rfl
theorem l_Lw_135 : Cond.methodLink "NestedClipsLaw" 135 y_Md_hidden ∈ zT := zk_8 15 rfl rfl
theorem l_Lw_139 : Cond.methodLink "NestedClipsLaw" 139 y_Md_pieces ∈ zT := zk_8 19 rfl rfl
theorem l_Md_436 : Cond.methodLink "NestedClipsModel" 436 y_Md_laysTimes ∈ zT := zk_8 23 rfl rfl
theorem l_Md_439 : Cond.methodLink "NestedClipsModel" 439 y_Md_goesPiece ∈ zT := zk_8 27 rfl rfl
theorem l_Lw_143 : Cond.methodLink "NestedClipsLaw" 143 y_Md_piece ∈ zT := zk_8 31 rfl rfl
theorem l_Md_442 : Cond.methodLink "NestedClipsModel" 442 y_Md_asksPiece ∈ zT := zk_8 35 rfl rfl
theorem l_Md_446 : Cond.methodLink "NestedClipsModel" 446 y_Md_stepOf ∈ zT := zk_8 39 rfl rfl
theorem l_Lw_147 : Cond.methodLink "NestedClipsLaw" 147 y_Md_reach ∈ zT := zk_8 43 rfl rfl
theorem l_Lw_151 : Cond.methodLink "NestedClipsLaw" 151 y_Md_spans ∈ zT := zk_8 47 rfl rfl
theorem l_Md_449 : Cond.methodLink "NestedClipsModel" 449 y_Md_isFirst ∈ zT := zk_8 51 rfl rfl
theorem l_Lw_155 : Cond.methodLink "NestedClipsLaw" 155 y_Md_span ∈ zT := zk_8 55 rfl rfl
theorem l_Md_452 : Cond.methodLink "NestedClipsModel" 452 y_Md_unlike ∈ zT := zk_8 59 rfl rfl
theorem l_Lw_159 : Cond.methodLink "NestedClipsLaw" 159 y_Md_ticks ∈ zT := zk_8 63 rfl rfl
theorem l_Lw_163 : Cond.methodLink "NestedClipsLaw" 163 y_Md_both ∈ zT := zk_8 67 rfl rfl
theorem l_Lw_167 : Cond.methodLink "NestedClipsLaw" 167 y_Md_when ∈ zT := zk_8 71 rfl rfl
theorem l_Lw_171 : Cond.methodLink "NestedClipsLaw" 171 y_Md_frames ∈ zT := zk_8 75 rfl rfl
theorem l_Lw_175 : Cond.methodLink "NestedClipsLaw" 175 y_Md_next ∈ zT := zk_8 79 rfl rfl
theorem l_Lw_179 : Cond.methodLink "NestedClipsLaw" 179 y_Md_most ∈ zT := zk_8 83 rfl rfl
theorem l_Md_455 : Cond.methodLink "NestedClipsModel" 455 y_Md_leavesPlaying ∈ zT := zk_8 87 rfl rfl
theorem l_Lw_183 : Cond.methodLink "NestedClipsLaw" 183 y_Md_gaps ∈ zT := zk_8 91 rfl rfl
theorem l_Lw_187 : Cond.methodLink "NestedClipsLaw" 187 y_Md_fit ∈ zT := zk_8 95 rfl rfl
theorem l_Lw_191 : Cond.methodLink "NestedClipsLaw" 191 y_Md_slack ∈ zT := zk_8 99 rfl rfl
theorem l_Lw_195 : Cond.methodLink "NestedClipsLaw" 195 y_Md_seek ∈ zT := zk_8 103 rfl rfl
theorem l_Lw_199 : Cond.methodLink "NestedClipsLaw" 199 y_Md_play ∈ zT := zk_8 107 rfl rfl
theorem l_Md_461 : Cond.methodLink "NestedClipsModel" 461 y_Md_steps ∈ zT := zk_8 111 rfl rfl
theorem l_Md_458 : Cond.methodLink "NestedClipsModel" 458 y_Md_tells ∈ zT := zk_8 115 rfl rfl
theorem l_Lw_203 : Cond.methodLink "NestedClipsLaw" 203 y_Md_event ∈ zT := zk_8 119 rfl rfl
theorem k_Nc_init : zCalI y_Nc_init m_Nc_init 0 := ⟨⟨zk_1 23 rfl rfl, zk_1 1 rfl rfl, ⟨by decide, by decide, by decide +kernel⟩, by decide⟩, zk_1 22 rfl rfl, rfl, rfl⟩
theorem k_Sh_init : zCalI y_Sh_init m_Sh_init 0 := ⟨⟨zk_1 31 rfl rfl, zk_1 2 rfl rfl, ⟨by decide, by decide, by decide +kernel⟩, by decide⟩, zk_1 30 rfl rfl, rfl, rfl⟩
theorem k_La_init : zCalI y_La_init m_La_init 0 := ⟨⟨zk_1 99 rfl rfl, zk_1 3 rfl rfl, ⟨by decide, by decide, by decide +kernel⟩, by decide⟩, zk_1 98 rfl rfl, rfl, rfl⟩
theorem k_Sg_init : zCalI y_Sg_init m_Sg_init 2 := ⟨⟨zk_1 137 rfl rfl, zk_1 4 rfl rfl, ⟨by decide, by decide, by decide +kernel⟩, by decide⟩, zk_1 136 rfl rfl, rfl, rfl⟩
theorem k_Mo_init : zCalI y_Mo_init m_Mo_init 0 := ⟨⟨zk_1 143 rfl rfl, zk_1 5 rfl rfl, ⟨by decide, by decide, by decide +kernel⟩, by decide⟩, zk_1 142 rfl rfl, rfl, rfl⟩
theorem k_Sr_init : zCalI y_Sr_init m_Sr_init 1 := ⟨⟨zk_1 223 rfl rfl, zk_1 6 rfl rfl, ⟨by decide, by decide, by decide +kernel⟩, by decide⟩, zk_1 222 rfl rfl, rfl, rfl⟩
theorem k_Pa_init : zCalI y_Pa_init m_Pa_init 0 := ⟨⟨zk_2 12 rfl rfl, zk_1 7 rfl rfl, ⟨by decide, by decide, by decide +kernel⟩, by decide⟩, zk_2 11 rfl rfl, rfl, rfl⟩
theorem k_Ta_init : zCalI y_Ta_init m_Ta_init 0 := ⟨⟨zk_2 32 rfl rfl, zk_1 8 rfl rfl, ⟨by decide, by decide, by decide +kernel⟩, by decide⟩, zk_2 31 rfl rfl, rfl, rfl⟩
theorem k_Rd_init : zCalI y_Rd_init m_Rd_init 3 := ⟨⟨zk_2 47 rfl rfl, zk_1 9 rfl rfl, ⟨by decide, by decide, by decide +kernel⟩, by decide⟩, zk_2 46 rfl rfl, rfl, rfl⟩
theorem k_Re_init : zCalI y_Re_init m_Re_init 0 := ⟨⟨zk_2 102 rfl rfl, zk_1 10 rfl rfl, ⟨by decide, by decide, by decide +kernel⟩, by decide⟩, zk_2 101 rfl rfl, rfl, rfl⟩
theorem k_Sg_prepare : zCalV y_Sg_prepare m_Sg_prepare 0 := ⟨⟨zk_2 138 rfl rfl, zk_1 4 rfl rfl, ⟨by decide, by decide, by decide +kernel⟩, by decide⟩, zk_2 136 rfl rfl, zk_2 137 rfl rfl⟩
theorem k_La_measure : zCalV y_La_measure m_La_measure 1 := ⟨⟨zk_2 142 rfl rfl, zk_1 3 rfl rfl, ⟨by decide, by decide, by decide +kernel⟩, by decide⟩, zk_2 140 rfl rfl, zk_2 141 rfl rfl⟩
theorem k_La_layOneBehindTheOther : zCalV y_La_layOneBehindTheOther m_La_layOneBehindTheOther 2 := ⟨⟨zk_2 146 rfl rfl, zk_1 3 rfl rfl, ⟨by decide, by decide, by decide +kernel⟩, by decide⟩, zk_2 145 rfl rfl, zp_1 0 rfl rfl rfl⟩
theorem k_Sh_childAt : zCalV y_Sh_childAt m_Sh_childAt 2 := ⟨⟨zk_2 150 rfl rfl, zk_1 2 rfl rfl, ⟨by decide, by decide, by decide +kernel⟩, by decide⟩, zk_2 148 rfl rfl, zk_2 149 rfl rfl⟩
theorem k_La_layAtOnce : zCalV y_La_layAtOnce m_La_layAtOnce 2 := ⟨⟨zk_2 154 rfl rfl, zk_1 3 rfl rfl, ⟨by decide, by decide, by decide +kernel⟩, by decide⟩, zk_2 153 rfl rfl, zp_1 1 rfl rfl rfl⟩
theorem k_La_layInPar : zCalV y_La_layInPar m_La_layInPar 2 := ⟨⟨zk_2 158 rfl rfl, zk_1 3 rfl rfl, ⟨by decide, by decide, by decide +kernel⟩, by decide⟩, zk_2 157 rfl rfl, zp_1 2 rfl rfl rfl⟩
theorem k_Sh_startsByAnother : zCalV y_Sh_startsByAnother m_Sh_startsByAnother 1 := ⟨⟨zk_2 162 rfl rfl, zk_1 2 rfl rfl, ⟨by decide, by decide, by decide +kernel⟩, by decide⟩, zk_2 160 rfl rfl, zk_2 161 rfl rfl⟩
theorem k_Ma_max : zCalS y_Ma_max m_Ma_max 2 := ⟨⟨zk_2 165 rfl rfl, zk_1 11 rfl rfl, ⟨by decide, by decide, by decide +kernel⟩, by decide⟩, zk_2 164 rfl rfl⟩
theorem k_Sh_markOf : zCalV y_Sh_markOf m_Sh_markOf 2 := ⟨⟨zk_2 169 rfl rfl, zk_1 2 rfl rfl, ⟨by decide, by decide, by decide +kernel⟩, by decide⟩, zk_2 167 rfl rfl, zk_2 168 rfl rfl⟩
theorem k_La_activeOf : zCalV y_La_activeOf m_La_activeOf 2 := ⟨⟨zk_2 173 rfl rfl, zk_1 3 rfl rfl, ⟨by decide, by decide, by decide +kernel⟩, by decide⟩, zk_2 172 rfl rfl, zp_1 3 rfl rfl rfl⟩
theorem k_Sg_standLeaves : zCalV y_Sg_standLeaves m_Sg_standLeaves 0 := ⟨⟨zk_2 177 rfl rfl, zk_1 4 rfl rfl, ⟨by decide, by decide, by decide +kernel⟩, by decide⟩, zk_2 176 rfl rfl, zp_1 4 rfl rfl rfl⟩
theorem k_Sg_sortPresses : zCalV y_Sg_sortPresses m_Sg_sortPresses 0 := ⟨⟨zk_2 184 rfl rfl, zk_1 4 rfl rfl, ⟨by decide, by decide, by decide +kernel⟩, by decide⟩, zk_2 183 rfl rfl, zp_1 5 rfl rfl rfl⟩
theorem k_Sg_fill : zCalV y_Sg_fill m_Sg_fill 2 := ⟨⟨zk_2 188 rfl rfl, zk_1 4 rfl rfl, ⟨by decide, by decide, by decide +kernel⟩, by decide⟩, zk_2 187 rfl rfl, zp_1 6 rfl rfl rfl⟩
theorem k_Mo_clear : zCalV y_Mo_clear m_Mo_clear 1 := ⟨⟨zk_2 192 rfl rfl, zk_1 5 rfl rfl, ⟨by decide, by decide, by decide +kernel⟩, by decide⟩, zk_2 190 rfl rfl, zk_2 191 rfl rfl⟩
theorem k_Sg_fillClip : zCalV y_Sg_fillClip m_Sg_fillClip 2 := ⟨⟨zk_2 196 rfl rfl, zk_1 4 rfl rfl, ⟨by decide, by decide, by decide +kernel⟩, by decide⟩, zk_2 195 rfl rfl, zp_1 7 rfl rfl rfl⟩
theorem k_Mo_runs : zCalV y_Mo_runs m_Mo_runs 1 := ⟨⟨zk_2 200 rfl rfl, zk_1 5 rfl rfl, ⟨by decide, by decide, by decide +kernel⟩, by decide⟩, zk_2 198 rfl rfl, zk_2 199 rfl rfl⟩
theorem k_Sg_begunByPress : zCalV y_Sg_begunByPress m_Sg_begunByPress 2 := ⟨⟨zk_2 204 rfl rfl, zk_1 4 rfl rfl, ⟨by decide, by decide, by decide +kernel⟩, by decide⟩, zk_2 203 rfl rfl, zp_1 8 rfl rfl rfl⟩
theorem k_Sg_samePasses : zCalV y_Sg_samePasses m_Sg_samePasses 3 := ⟨⟨zk_2 208 rfl rfl, zk_1 4 rfl rfl, ⟨by decide, by decide, by decide +kernel⟩, by decide⟩, zk_2 207 rfl rfl, zp_1 9 rfl rfl rfl⟩
theorem k_Sg_fillRunning : zCalV y_Sg_fillRunning m_Sg_fillRunning 3 := ⟨⟨zk_2 212 rfl rfl, zk_1 4 rfl rfl, ⟨by decide, by decide, by decide +kernel⟩, by decide⟩, zk_2 211 rfl rfl, zp_1 10 rfl rfl rfl⟩
theorem k_Sg_strengthOf : zCalV y_Sg_strengthOf m_Sg_strengthOf 2 := ⟨⟨zk_2 216 rfl rfl, zk_1 4 rfl rfl, ⟨by decide, by decide, by decide +kernel⟩, by decide⟩, zk_2 215 rfl rfl, zp_1 11 rfl rfl rfl⟩
theorem k_Ma_minL : zCalS y_Ma_minL m_Ma_minL 2 := ⟨⟨zk_2 220 rfl rfl, zk_1 11 rfl rfl, ⟨by decide, by decide, by decide +kernel⟩, by decide⟩, zk_2 219 rfl rfl⟩
theorem k_Sg_shareLight : zCalV y_Sg_shareLight m_Sg_shareLight 1 := ⟨⟨zk_2 224 rfl rfl, zk_1 4 rfl rfl, ⟨by decide, by decide, by decide +kernel⟩, by decide⟩, zk_2 223 rfl rfl, zp_1 12 rfl rfl rfl⟩
theorem k_Nc_status : zCalV y_Nc_status m_Nc_status 0 := ⟨⟨zk_3 29 rfl rfl, zk_1 1 rfl rfl, ⟨by decide, by decide, by decide +kernel⟩, by decide⟩, zk_3 27 rfl rfl, zk_3 28 rfl rfl⟩
theorem k_Nc_feed : zCalV y_Nc_feed m_Nc_feed 5 := ⟨⟨zk_3 33 rfl rfl, zk_1 1 rfl rfl, ⟨by decide, by decide, by decide +kernel⟩, by decide⟩, zk_3 31 rfl rfl, zk_3 32 rfl rfl⟩
theorem k_Ta_putInt : zCalV y_Ta_putInt m_Ta_putInt 1 := ⟨⟨zk_3 37 rfl rfl, zk_1 8 rfl rfl, ⟨by decide, by decide, by decide +kernel⟩, by decide⟩, zk_3 35 rfl rfl, zk_3 36 rfl rfl⟩
theorem k_Nc_load : zCalV y_Nc_load m_Nc_load 1 := ⟨⟨zk_3 41 rfl rfl, zk_1 1 rfl rfl, ⟨by decide, by decide, by decide +kernel⟩, by decide⟩, zk_3 39 rfl rfl, zk_3 40 rfl rfl⟩
theorem k_Nc_refuse : zCalV y_Nc_refuse m_Nc_refuse 1 := ⟨⟨zk_3 45 rfl rfl, zk_1 1 rfl rfl, ⟨by decide, by decide, by decide +kernel⟩, by decide⟩, zk_3 44 rfl rfl, zp_1 13 rfl rfl rfl⟩
theorem k_Rd_read : zCalV y_Rd_read m_Rd_read 1 := ⟨⟨zk_3 49 rfl rfl, zk_1 9 rfl rfl, ⟨by decide, by decide, by decide +kernel⟩, by decide⟩, zk_3 47 rfl rfl, zk_3 48 rfl rfl⟩
theorem k_Sh_empty : zCalV y_Sh_empty m_Sh_empty 0 := ⟨⟨zk_3 53 rfl rfl, zk_1 2 rfl rfl, ⟨by decide, by decide, by decide +kernel⟩, by decide⟩, zk_3 51 rfl rfl, zk_3 52 rfl rfl⟩
theorem k_Rd_takeToken : zCalV y_Rd_takeToken m_Rd_takeToken 0 := ⟨⟨zk_3 57 rfl rfl, zk_1 9 rfl rfl, ⟨by decide, by decide, by decide +kernel⟩, by decide⟩, zk_3 56 rfl rfl, zp_1 14 rfl rfl rfl⟩
theorem k_Rd_isLetter : zCalV y_Rd_isLetter m_Rd_isLetter 1 := ⟨⟨zk_3 61 rfl rfl, zk_1 9 rfl rfl, ⟨by decide, by decide, by decide +kernel⟩, by decide⟩, zk_3 60 rfl rfl, zp_1 15 rfl rfl rfl⟩
theorem k_Rd_takeWord : zCalV y_Rd_takeWord m_Rd_takeWord 0 := ⟨⟨zk_3 65 rfl rfl, zk_1 9 rfl rfl, ⟨by decide, by decide, by decide +kernel⟩, by decide⟩, zk_3 64 rfl rfl, zp_2 0 rfl rfl rfl⟩
theorem k_Rd_withLetter : zCalS y_Rd_withLetter m_Rd_withLetter 2 := ⟨⟨zk_3 68 rfl rfl, zk_1 9 rfl rfl, ⟨by decide, by decide, by decide +kernel⟩, by decide⟩, zk_3 67 rfl rfl⟩
theorem k_Rd_isDigit : zCalV y_Rd_isDigit m_Rd_isDigit 1 := ⟨⟨zk_3 73 rfl rfl, zk_1 9 rfl rfl, ⟨by decide, by decide, by decide +kernel⟩, by decide⟩, zk_3 72 rfl rfl, zp_2 1 rfl rfl rfl⟩
theorem k_Rd_takeNumber : zCalV y_Rd_takeNumber m_Rd_takeNumber 0 := ⟨⟨zk_3 77 rfl rfl, zk_1 9 rfl rfl, ⟨by decide, by decide, by decide +kernel⟩, by decide⟩, zk_3 76 rfl rfl, zp_2 2 rfl rfl rfl⟩
theorem k_Rd_takeSign : zCalV y_Rd_takeSign m_Rd_takeSign 0 := ⟨⟨zk_3 83 rfl rfl, zk_1 9 rfl rfl, ⟨by decide, by decide, by decide +kernel⟩, by decide⟩, zk_3 82 rfl rfl, zp_2 3 rfl rfl rfl⟩
theorem k_Rd_readClip : zCalV y_Rd_readClip m_Rd_readClip 0 := ⟨⟨zk_3 87 rfl rfl, zk_1 9 rfl rfl, ⟨by decide, by decide, by decide +kernel⟩, by decide⟩, zk_3 86 rfl rfl, zp_2 4 rfl rfl rfl⟩
theorem k_Rd_wordNumber : zCalV y_Rd_wordNumber m_Rd_wordNumber 0 := ⟨⟨zk_3 91 rfl rfl, zk_1 9 rfl rfl, ⟨by decide, by decide, by decide +kernel⟩, by decide⟩, zk_3 90 rfl rfl, zp_2 5 rfl rfl rfl⟩
theorem k_St_length : zCalV y_St_length m_St_length 0 := ⟨⟨zk_3 96 rfl rfl, zk_1 13 rfl rfl, ⟨by decide, by decide, by decide +kernel⟩, by decide⟩, zk_3 94 rfl rfl, zk_3 95 rfl rfl⟩
theorem k_St_coder : zCalV y_St_coder m_St_coder 0 := ⟨⟨zk_3 100 rfl rfl, zk_1 13 rfl rfl, ⟨by decide, by decide, by decide +kernel⟩, by decide⟩, zk_3 98 rfl rfl, zk_3 99 rfl rfl⟩
theorem k_St_charAt : zCalV y_St_charAt m_St_charAt 1 := ⟨⟨zk_3 106 rfl rfl, zk_1 13 rfl rfl, ⟨by decide, by decide, by decide +kernel⟩, by decide⟩, zk_3 104 rfl rfl, zk_3 105 rfl rfl⟩
theorem k_St_isLatin1 : zCalV y_St_isLatin1 m_St_isLatin1 0 := ⟨⟨zk_3 110 rfl rfl, zk_1 13 rfl rfl, ⟨by decide, by decide, by decide +kernel⟩, by decide⟩, zk_3 108 rfl rfl, zk_3 109 rfl rfl⟩
theorem k_L1_charAt : zCalS y_L1_charAt m_L1_charAt 2 := ⟨⟨zk_3 113 rfl rfl, zk_1 14 rfl rfl, ⟨by decide, by decide, by decide +kernel⟩, by decide⟩, zk_3 112 rfl rfl⟩
theorem k_St_checkIndex : zCalS y_St_checkIndex m_St_checkIndex 2 := ⟨⟨zk_3 116 rfl rfl, zk_1 13 rfl rfl, ⟨by decide, by decide, by decide +kernel⟩, by decide⟩, zk_3 115 rfl rfl⟩
theorem k_Pr_checkIndex : zCalS y_Pr_checkIndex m_Pr_checkIndex 3 := ⟨⟨zk_3 121 rfl rfl, zk_1 15 rfl rfl, ⟨by decide, by decide, by decide +kernel⟩, by decide⟩, zk_3 120 rfl rfl⟩
theorem k_U6_charAt : zCalS y_U6_charAt m_U6_charAt 2 := ⟨⟨zk_3 124 rfl rfl, zk_1 16 rfl rfl, ⟨by decide, by decide, by decide +kernel⟩, by decide⟩, zk_3 123 rfl rfl⟩
theorem k_U6_checkIndex : zCalS y_U6_checkIndex m_U6_checkIndex 2 := ⟨⟨zk_3 127 rfl rfl, zk_1 16 rfl rfl, ⟨by decide, by decide, by decide +kernel⟩, by decide⟩, zk_3 126 rfl rfl⟩
theorem k_U6_length : zCalS y_U6_length m_U6_length 1 := ⟨⟨zk_3 130 rfl rfl, zk_1 16 rfl rfl, ⟨by decide, by decide, by decide +kernel⟩, by decide⟩, zk_3 129 rfl rfl⟩
theorem k_U6_getChar : zCalS y_U6_getChar m_U6_getChar 2 := ⟨⟨zk_3 134 rfl rfl, zk_1 16 rfl rfl, ⟨by decide, by decide, by decide +kernel⟩, by decide⟩, zk_3 133 rfl rfl⟩
theorem k_Rd_cannotStand : zCalV y_Rd_cannotStand m_Rd_cannotStand 0 := ⟨⟨zk_3 144 rfl rfl, zk_1 9 rfl rfl, ⟨by decide, by decide, by decide +kernel⟩, by decide⟩, zk_3 143 rfl rfl, zp_2 6 rfl rfl rfl⟩
theorem k_Rd_failWith : zCalV y_Rd_failWith m_Rd_failWith 1 := ⟨⟨zk_3 148 rfl rfl, zk_1 9 rfl rfl, ⟨by decide, by decide, by decide +kernel⟩, by decide⟩, zk_3 147 rfl rfl, zp_2 7 rfl rfl rfl⟩
theorem k_Sh_howManyAroundNew : zCalV y_Sh_howManyAroundNew m_Sh_howManyAroundNew 1 := ⟨⟨zk_3 152 rfl rfl, zk_1 2 rfl rfl, ⟨by decide, by decide, by decide +kernel⟩, by decide⟩, zk_3 150 rfl rfl, zk_3 151 rfl rfl⟩
theorem k_Sh_append : zCalV y_Sh_append m_Sh_append 2 := ⟨⟨zk_3 156 rfl rfl, zk_1 2 rfl rfl, ⟨by decide, by decide, by decide +kernel⟩, by decide⟩, zk_3 154 rfl rfl, zk_3 155 rfl rfl⟩
theorem k_Sh_howManyIn : zCalV y_Sh_howManyIn m_Sh_howManyIn 1 := ⟨⟨zk_3 160 rfl rfl, zk_1 2 rfl rfl, ⟨by decide, by decide, by decide +kernel⟩, by decide⟩, zk_3 158 rfl rfl, zk_3 159 rfl rfl⟩
theorem k_Sh_putStart : zCalV y_Sh_putStart m_Sh_putStart 4 := ⟨⟨zk_3 164 rfl rfl, zk_1 2 rfl rfl, ⟨by decide, by decide, by decide +kernel⟩, by decide⟩, zk_3 162 rfl rfl, zk_3 163 rfl rfl⟩
theorem k_Sh_putMark : zCalV y_Sh_putMark m_Sh_putMark 3 := ⟨⟨zk_3 170 rfl rfl, zk_1 2 rfl rfl, ⟨by decide, by decide, by decide +kernel⟩, by decide⟩, zk_3 168 rfl rfl, zk_3 169 rfl rfl⟩
theorem k_Rd_readName : zCalV y_Rd_readName m_Rd_readName 1 := ⟨⟨zk_3 174 rfl rfl, zk_1 9 rfl rfl, ⟨by decide, by decide, by decide +kernel⟩, by decide⟩, zk_3 173 rfl rfl, zp_2 8 rfl rfl rfl⟩
theorem k_Rd_isName : zCalV y_Rd_isName m_Rd_isName 0 := ⟨⟨zk_3 178 rfl rfl, zk_1 9 rfl rfl, ⟨by decide, by decide, by decide +kernel⟩, by decide⟩, zk_3 177 rfl rfl, zp_2 9 rfl rfl rfl⟩
theorem k_Rd_readMark : zCalV y_Rd_readMark m_Rd_readMark 1 := ⟨⟨zk_3 182 rfl rfl, zk_1 9 rfl rfl, ⟨by decide, by decide, by decide +kernel⟩, by decide⟩, zk_3 181 rfl rfl, zp_2 10 rfl rfl rfl⟩
theorem k_Ma_min : zCalS y_Ma_min m_Ma_min 2 := ⟨⟨zk_3 185 rfl rfl, zk_1 11 rfl rfl, ⟨by decide, by decide, by decide +kernel⟩, by decide⟩, zk_3 184 rfl rfl⟩
theorem k_Rd_readMarkNumber : zCalV y_Rd_readMarkNumber m_Rd_readMarkNumber 2 := ⟨⟨zk_3 189 rfl rfl, zk_1 9 rfl rfl, ⟨by decide, by decide, by decide +kernel⟩, by decide⟩, zk_3 188 rfl rfl, zp_2 11 rfl rfl rfl⟩
theorem k_Rd_mayBeNumber : zCalV y_Rd_mayBeNumber m_Rd_mayBeNumber 2 := ⟨⟨zk_3 197 rfl rfl, zk_1 9 rfl rfl, ⟨by decide, by decide, by decide +kernel⟩, by decide⟩, zk_3 196 rfl rfl, zp_2 12 rfl rfl rfl⟩
theorem k_Rd_readStart : zCalV y_Rd_readStart m_Rd_readStart 2 := ⟨⟨zk_3 201 rfl rfl, zk_1 9 rfl rfl, ⟨by decide, by decide, by decide +kernel⟩, by decide⟩, zk_3 200 rfl rfl, zp_2 13 rfl rfl rfl⟩
theorem k_Sh_isInPar : zCalV y_Sh_isInPar m_Sh_isInPar 1 := ⟨⟨zk_3 205 rfl rfl, zk_1 2 rfl rfl, ⟨by decide, by decide, by decide +kernel⟩, by decide⟩, zk_3 203 rfl rfl, zk_3 204 rfl rfl⟩
theorem k_Rd_readSign : zCalV y_Rd_readSign m_Rd_readSign 1 := ⟨⟨zk_3 210 rfl rfl, zk_1 9 rfl rfl, ⟨by decide, by decide, by decide +kernel⟩, by decide⟩, zk_3 209 rfl rfl, zp_2 14 rfl rfl rfl⟩
theorem k_Rd_isSign : zCalV y_Rd_isSign m_Rd_isSign 1 := ⟨⟨zk_3 214 rfl rfl, zk_1 9 rfl rfl, ⟨by decide, by decide, by decide +kernel⟩, by decide⟩, zk_3 213 rfl rfl, zp_2 15 rfl rfl rfl⟩
theorem k_Rd_closeClip : zCalV y_Rd_closeClip m_Rd_closeClip 0 := ⟨⟨zk_3 218 rfl rfl, zk_1 9 rfl rfl, ⟨by decide, by decide, by decide +kernel⟩, by decide⟩, zk_3 217 rfl rfl, zp_3 0 rfl rfl rfl⟩
theorem k_Rd_findOthers : zCalV y_Rd_findOthers m_Rd_findOthers 0 := ⟨⟨zk_3 222 rfl rfl, zk_1 9 rfl rfl, ⟨by decide, by decide, by decide +kernel⟩, by decide⟩, zk_3 221 rfl rfl, zp_3 1 rfl rfl rfl⟩
theorem k_Rd_namedInOpen : zCalV y_Rd_namedInOpen m_Rd_namedInOpen 1 := ⟨⟨zk_3 227 rfl rfl, zk_1 9 rfl rfl, ⟨by decide, by decide, by decide +kernel⟩, by decide⟩, zk_3 226 rfl rfl, zp_3 2 rfl rfl rfl⟩
theorem k_Rd_hasRing : zCalV y_Rd_hasRing m_Rd_hasRing 0 := ⟨⟨zk_3 231 rfl rfl, zk_1 9 rfl rfl, ⟨by decide, by decide, by decide +kernel⟩, by decide⟩, zk_3 230 rfl rfl, zp_3 3 rfl rfl rfl⟩
theorem k_Sh_startLeadsTo : zCalV y_Sh_startLeadsTo m_Sh_startLeadsTo 2 := ⟨⟨zk_3 235 rfl rfl, zk_1 2 rfl rfl, ⟨by decide, by decide, by decide +kernel⟩, by decide⟩, zk_3 233 rfl rfl, zk_3 234 rfl rfl⟩
theorem k_Rd_readEnd : zCalV y_Rd_readEnd m_Rd_readEnd 0 := ⟨⟨zk_4 0 rfl rfl, zk_1 9 rfl rfl, ⟨by decide, by decide, by decide +kernel⟩, by decide⟩, zk_3 239 rfl rfl, zp_3 4 rfl rfl rfl⟩
theorem k_Re_rewind : zCalV y_Re_rewind m_Re_rewind 0 := ⟨⟨zk_4 5 rfl rfl, zk_1 10 rfl rfl, ⟨by decide, by decide, by decide +kernel⟩, by decide⟩, zk_4 3 rfl rfl, zk_4 4 rfl rfl⟩
theorem k_Nc_act : zCalV y_Nc_act m_Nc_act 1 := ⟨⟨zk_4 9 rfl rfl, zk_1 1 rfl rfl, ⟨by decide, by decide, by decide +kernel⟩, by decide⟩, zk_4 8 rfl rfl, zp_3 5 rfl rfl rfl⟩
theorem k_Nc_draftLasts : zCalV y_Nc_draftLasts m_Nc_draftLasts 0 := ⟨⟨zk_4 13 rfl rfl, zk_1 1 rfl rfl, ⟨by decide, by decide, by decide +kernel⟩, by decide⟩, zk_4 12 rfl rfl, zp_3 6 rfl rfl rfl⟩
theorem k_Pa_keep : zCalV y_Pa_keep m_Pa_keep 1 := ⟨⟨zk_4 18 rfl rfl, zk_1 7 rfl rfl, ⟨by decide, by decide, by decide +kernel⟩, by decide⟩, zk_4 16 rfl rfl, zk_4 17 rfl rfl⟩
theorem k_Sh_copyFrom : zCalV y_Sh_copyFrom m_Sh_copyFrom 1 := ⟨⟨zk_4 22 rfl rfl, zk_1 2 rfl rfl, ⟨by decide, by decide, by decide +kernel⟩, by decide⟩, zk_4 20 rfl rfl, zk_4 21 rfl rfl⟩
theorem k_Nc_give : zCalV y_Nc_give m_Nc_give 1 := ⟨⟨zk_4 31 rfl rfl, zk_1 1 rfl rfl, ⟨by decide, by decide, by decide +kernel⟩, by decide⟩, zk_4 30 rfl rfl, zp_3 7 rfl rfl rfl⟩
theorem k_Nc_fault : zCalV y_Nc_fault m_Nc_fault 1 := ⟨⟨zk_4 36 rfl rfl, zk_1 1 rfl rfl, ⟨by decide, by decide, by decide +kernel⟩, by decide⟩, zk_4 34 rfl rfl, zk_4 35 rfl rfl⟩
theorem k_Nc_add : zCalV y_Nc_add m_Nc_add 2 := ⟨⟨zk_4 40 rfl rfl, zk_1 1 rfl rfl, ⟨by decide, by decide, by decide +kernel⟩, by decide⟩, zk_4 38 rfl rfl, zk_4 39 rfl rfl⟩
theorem k_Sh_has : zCalV y_Sh_has m_Sh_has 1 := ⟨⟨zk_4 44 rfl rfl, zk_1 2 rfl rfl, ⟨by decide, by decide, by decide +kernel⟩, by decide⟩, zk_4 42 rfl rfl, zk_4 43 rfl rfl⟩
theorem k_Nc_lose : zCalV y_Nc_lose m_Nc_lose 1 := ⟨⟨zk_4 50 rfl rfl, zk_1 1 rfl rfl, ⟨by decide, by decide, by decide +kernel⟩, by decide⟩, zk_4 48 rfl rfl, zk_4 49 rfl rfl⟩
theorem k_Sh_startsAnother : zCalV y_Sh_startsAnother m_Sh_startsAnother 1 := ⟨⟨zk_4 54 rfl rfl, zk_1 2 rfl rfl, ⟨by decide, by decide, by decide +kernel⟩, by decide⟩, zk_4 52 rfl rfl, zk_4 53 rfl rfl⟩
theorem k_Sh_drop : zCalV y_Sh_drop m_Sh_drop 1 := ⟨⟨zk_4 58 rfl rfl, zk_1 2 rfl rfl, ⟨by decide, by decide, by decide +kernel⟩, by decide⟩, zk_4 56 rfl rfl, zk_4 57 rfl rfl⟩
theorem k_Sh_bitsWithin : zCalV y_Sh_bitsWithin m_Sh_bitsWithin 1 := ⟨⟨zk_4 62 rfl rfl, zk_1 2 rfl rfl, ⟨by decide, by decide, by decide +kernel⟩, by decide⟩, zk_4 61 rfl rfl, zp_3 8 rfl rfl rfl⟩
theorem k_Sh_copyClip : zCalV y_Sh_copyClip m_Sh_copyClip 3 := ⟨⟨zk_4 66 rfl rfl, zk_1 2 rfl rfl, ⟨by decide, by decide, by decide +kernel⟩, by decide⟩, zk_4 65 rfl rfl, zp_3 9 rfl rfl rfl⟩
theorem k_Sh_renumbered : zCalS y_Sh_renumbered m_Sh_renumbered 2 := ⟨⟨zk_4 69 rfl rfl, zk_1 2 rfl rfl, ⟨by decide, by decide, by decide +kernel⟩, by decide⟩, zk_4 68 rfl rfl⟩
theorem k_In_bitCount : zCalS y_In_bitCount m_In_bitCount 1 := ⟨⟨zk_4 72 rfl rfl, zk_1 18 rfl rfl, ⟨by decide, by decide, by decide +kernel⟩, by decide⟩, zk_4 71 rfl rfl⟩
theorem k_Nc_move : zCalV y_Nc_move m_Nc_move 2 := ⟨⟨zk_4 79 rfl rfl, zk_1 1 rfl rfl, ⟨by decide, by decide, by decide +kernel⟩, by decide⟩, zk_4 77 rfl rfl, zk_4 78 rfl rfl⟩
theorem k_Sh_shift : zCalV y_Sh_shift m_Sh_shift 2 := ⟨⟨zk_4 84 rfl rfl, zk_1 2 rfl rfl, ⟨by decide, by decide, by decide +kernel⟩, by decide⟩, zk_4 82 rfl rfl, zk_4 83 rfl rfl⟩
theorem k_Nc_mark : zCalV y_Nc_mark m_Nc_mark 3 := ⟨⟨zk_4 88 rfl rfl, zk_1 1 rfl rfl, ⟨by decide, by decide, by decide +kernel⟩, by decide⟩, zk_4 86 rfl rfl, zk_4 87 rfl rfl⟩
theorem k_Nc_start : zCalV y_Nc_start m_Nc_start 4 := ⟨⟨zk_4 96 rfl rfl, zk_1 1 rfl rfl, ⟨by decide, by decide, by decide +kernel⟩, by decide⟩, zk_4 94 rfl rfl, zk_4 95 rfl rfl⟩
theorem k_Nc_press : zCalV y_Nc_press m_Nc_press 2 := ⟨⟨zk_4 103 rfl rfl, zk_1 1 rfl rfl, ⟨by decide, by decide, by decide +kernel⟩, by decide⟩, zk_4 101 rfl rfl, zk_4 102 rfl rfl⟩
theorem k_Nc_isTime : zCalS y_Nc_isTime m_Nc_isTime 1 := ⟨⟨zk_4 106 rfl rfl, zk_1 1 rfl rfl, ⟨by decide, by decide, by decide +kernel⟩, by decide⟩, zk_4 105 rfl rfl⟩
theorem k_Sh_hasPress : zCalV y_Sh_hasPress m_Sh_hasPress 2 := ⟨⟨zk_4 110 rfl rfl, zk_1 2 rfl rfl, ⟨by decide, by decide, by decide +kernel⟩, by decide⟩, zk_4 108 rfl rfl, zk_4 109 rfl rfl⟩
theorem k_Sh_appendPress : zCalV y_Sh_appendPress m_Sh_appendPress 2 := ⟨⟨zk_4 114 rfl rfl, zk_1 2 rfl rfl, ⟨by decide, by decide, by decide +kernel⟩, by decide⟩, zk_4 112 rfl rfl, zk_4 113 rfl rfl⟩
theorem k_Nc_unpress : zCalV y_Nc_unpress m_Nc_unpress 1 := ⟨⟨zk_4 118 rfl rfl, zk_1 1 rfl rfl, ⟨by decide, by decide, by decide +kernel⟩, by decide⟩, zk_4 116 rfl rfl, zk_4 117 rfl rfl⟩
theorem k_Sh_dropPress : zCalV y_Sh_dropPress m_Sh_dropPress 1 := ⟨⟨zk_4 122 rfl rfl, zk_1 2 rfl rfl, ⟨by decide, by decide, by decide +kernel⟩, by decide⟩, zk_4 120 rfl rfl, zk_4 121 rfl rfl⟩
theorem k_Nc_undo : zCalV y_Nc_undo m_Nc_undo 0 := ⟨⟨zk_4 126 rfl rfl, zk_1 1 rfl rfl, ⟨by decide, by decide, by decide +kernel⟩, by decide⟩, zk_4 124 rfl rfl, zk_4 125 rfl rfl⟩
theorem k_Pa_bringBack : zCalV y_Pa_bringBack m_Pa_bringBack 1 := ⟨⟨zk_4 130 rfl rfl, zk_1 7 rfl rfl, ⟨by decide, by decide, by decide +kernel⟩, by decide⟩, zk_4 128 rfl rfl, zk_4 129 rfl rfl⟩
theorem k_Nc_many : zCalV y_Nc_many m_Nc_many 1 := ⟨⟨zk_4 134 rfl rfl, zk_1 1 rfl rfl, ⟨by decide, by decide, by decide +kernel⟩, by decide⟩, zk_4 132 rfl rfl, zk_4 133 rfl rfl⟩
theorem k_Sh_leaves : zCalV y_Sh_leaves m_Sh_leaves 0 := ⟨⟨zk_4 138 rfl rfl, zk_1 2 rfl rfl, ⟨by decide, by decide, by decide +kernel⟩, by decide⟩, zk_4 136 rfl rfl, zk_4 137 rfl rfl⟩
theorem k_Sh_bitsOfLeaves : zCalV y_Sh_bitsOfLeaves m_Sh_bitsOfLeaves 0 := ⟨⟨zk_4 142 rfl rfl, zk_1 2 rfl rfl, ⟨by decide, by decide, by decide +kernel⟩, by decide⟩, zk_4 140 rfl rfl, zk_4 141 rfl rfl⟩
theorem k_La_howManyOpen : zCalV y_La_howManyOpen m_La_howManyOpen 1 := ⟨⟨zk_4 146 rfl rfl, zk_1 3 rfl rfl, ⟨by decide, by decide, by decide +kernel⟩, by decide⟩, zk_4 144 rfl rfl, zk_4 145 rfl rfl⟩
theorem k_Nc_changes : zCalV y_Nc_changes m_Nc_changes 0 := ⟨⟨zk_4 150 rfl rfl, zk_1 1 rfl rfl, ⟨by decide, by decide, by decide +kernel⟩, by decide⟩, zk_4 149 rfl rfl, zp_3 10 rfl rfl rfl⟩
theorem k_Sg_at : zCalV y_Sg_at m_Sg_at 1 := ⟨⟨zk_4 154 rfl rfl, zk_1 4 rfl rfl, ⟨by decide, by decide, by decide +kernel⟩, by decide⟩, zk_4 152 rfl rfl, zk_4 153 rfl rfl⟩
theorem k_Mo_allStates : zCalV y_Mo_allStates m_Mo_allStates 1 := ⟨⟨zk_4 159 rfl rfl, zk_1 5 rfl rfl, ⟨by decide, by decide, by decide +kernel⟩, by decide⟩, zk_4 157 rfl rfl, zk_4 158 rfl rfl⟩
theorem k_Nc_clip : zCalV y_Nc_clip m_Nc_clip 2 := ⟨⟨zk_4 164 rfl rfl, zk_1 1 rfl rfl, ⟨by decide, by decide, by decide +kernel⟩, by decide⟩, zk_4 162 rfl rfl, zk_4 163 rfl rfl⟩
theorem k_Nc_within : zCalV y_Nc_within m_Nc_within 2 := ⟨⟨zk_4 168 rfl rfl, zk_1 1 rfl rfl, ⟨by decide, by decide, by decide +kernel⟩, by decide⟩, zk_4 166 rfl rfl, zk_4 167 rfl rfl⟩
theorem k_Nc_begin : zCalV y_Nc_begin m_Nc_begin 1 := ⟨⟨zk_4 173 rfl rfl, zk_1 1 rfl rfl, ⟨by decide, by decide, by decide +kernel⟩, by decide⟩, zk_4 171 rfl rfl, zk_4 172 rfl rfl⟩
theorem k_Nc_pressed : zCalV y_Nc_pressed m_Nc_pressed 2 := ⟨⟨zk_4 177 rfl rfl, zk_1 1 rfl rfl, ⟨by decide, by decide, by decide +kernel⟩, by decide⟩, zk_4 175 rfl rfl, zk_4 176 rfl rfl⟩
theorem k_Nc_state : zCalV y_Nc_state m_Nc_state 2 := ⟨⟨zk_4 181 rfl rfl, zk_1 1 rfl rfl, ⟨by decide, by decide, by decide +kernel⟩, by decide⟩, zk_4 179 rfl rfl, zk_4 180 rfl rfl⟩
theorem k_Nc_whyNotAt : zCalV y_Nc_whyNotAt m_Nc_whyNotAt 2 := ⟨⟨zk_4 185 rfl rfl, zk_1 1 rfl rfl, ⟨by decide, by decide, by decide +kernel⟩, by decide⟩, zk_4 184 rfl rfl, zp_3 11 rfl rfl rfl⟩
theorem k_Nc_local : zCalV y_Nc_local m_Nc_local 2 := ⟨⟨zk_4 189 rfl rfl, zk_1 1 rfl rfl, ⟨by decide, by decide, by decide +kernel⟩, by decide⟩, zk_4 187 rfl rfl, zk_4 188 rfl rfl⟩
theorem k_Nc_whyNotRunning : zCalV y_Nc_whyNotRunning m_Nc_whyNotRunning 2 := ⟨⟨zk_4 193 rfl rfl, zk_1 1 rfl rfl, ⟨by decide, by decide, by decide +kernel⟩, by decide⟩, zk_4 192 rfl rfl, zp_3 12 rfl rfl rfl⟩
theorem k_Nc_pass : zCalV y_Nc_pass m_Nc_pass 2 := ⟨⟨zk_4 198 rfl rfl, zk_1 1 rfl rfl, ⟨by decide, by decide, by decide +kernel⟩, by decide⟩, zk_4 196 rfl rfl, zk_4 197 rfl rfl⟩
theorem k_Nc_playing : zCalV y_Nc_playing m_Nc_playing 2 := ⟨⟨zk_4 202 rfl rfl, zk_1 1 rfl rfl, ⟨by decide, by decide, by decide +kernel⟩, by decide⟩, zk_4 200 rfl rfl, zk_4 201 rfl rfl⟩
theorem k_Mo_bitsOf : zCalV y_Mo_bitsOf m_Mo_bitsOf 2 := ⟨⟨zk_4 206 rfl rfl, zk_1 5 rfl rfl, ⟨by decide, by decide, by decide +kernel⟩, by decide⟩, zk_4 204 rfl rfl, zk_4 205 rfl rfl⟩
theorem k_Nc_known : zCalV y_Nc_known m_Nc_known 2 := ⟨⟨zk_4 210 rfl rfl, zk_1 1 rfl rfl, ⟨by decide, by decide, by decide +kernel⟩, by decide⟩, zk_4 208 rfl rfl, zk_4 209 rfl rfl⟩
theorem k_Nc_strength : zCalV y_Nc_strength m_Nc_strength 2 := ⟨⟨zk_4 214 rfl rfl, zk_1 1 rfl rfl, ⟨by decide, by decide, by decide +kernel⟩, by decide⟩, zk_4 212 rfl rfl, zk_4 213 rfl rfl⟩
theorem k_Nc_share : zCalV y_Nc_share m_Nc_share 2 := ⟨⟨zk_4 218 rfl rfl, zk_1 1 rfl rfl, ⟨by decide, by decide, by decide +kernel⟩, by decide⟩, zk_4 216 rfl rfl, zk_4 217 rfl rfl⟩
theorem k_Nc_dark : zCalV y_Nc_dark m_Nc_dark 1 := ⟨⟨zk_4 222 rfl rfl, zk_1 1 rfl rfl, ⟨by decide, by decide, by decide +kernel⟩, by decide⟩, zk_4 220 rfl rfl, zk_4 221 rfl rfl⟩
theorem k_Nc_top : zCalV y_Nc_top m_Nc_top 1 := ⟨⟨zk_4 226 rfl rfl, zk_1 1 rfl rfl, ⟨by decide, by decide, by decide +kernel⟩, by decide⟩, zk_4 224 rfl rfl, zk_4 225 rfl rfl⟩
theorem k_Sg_topAt : zCalV y_Sg_topAt m_Sg_topAt 1 := ⟨⟨zk_4 230 rfl rfl, zk_1 4 rfl rfl, ⟨by decide, by decide, by decide +kernel⟩, by decide⟩, zk_4 228 rfl rfl, zk_4 229 rfl rfl⟩
theorem k_Nc_seen : zCalV y_Nc_seen m_Nc_seen 1 := ⟨⟨zk_4 235 rfl rfl, zk_1 1 rfl rfl, ⟨by decide, by decide, by decide +kernel⟩, by decide⟩, zk_4 233 rfl rfl, zk_4 234 rfl rfl⟩
theorem k_Nc_whyNoLeaf : zCalV y_Nc_whyNoLeaf m_Nc_whyNoLeaf 1 := ⟨⟨zk_4 239 rfl rfl, zk_1 1 rfl rfl, ⟨by decide, by decide, by decide +kernel⟩, by decide⟩, zk_4 238 rfl rfl, zp_3 13 rfl rfl rfl⟩
theorem k_Nc_brightest : zCalV y_Nc_brightest m_Nc_brightest 1 := ⟨⟨zk_5 3 rfl rfl, zk_1 1 rfl rfl, ⟨by decide, by decide, by decide +kernel⟩, by decide⟩, zk_5 1 rfl rfl, zk_5 2 rfl rfl⟩
theorem k_Nc_hidden : zCalV y_Nc_hidden m_Nc_hidden 0 := ⟨⟨zk_5 7 rfl rfl, zk_1 1 rfl rfl, ⟨by decide, by decide, by decide +kernel⟩, by decide⟩, zk_5 5 rfl rfl, zk_5 6 rfl rfl⟩
theorem k_Mo_bitsOfSeen : zCalV y_Mo_bitsOfSeen m_Mo_bitsOfSeen 1 := ⟨⟨zk_5 11 rfl rfl, zk_1 5 rfl rfl, ⟨by decide, by decide, by decide +kernel⟩, by decide⟩, zk_5 9 rfl rfl, zk_5 10 rfl rfl⟩
theorem k_Nc_pieces : zCalV y_Nc_pieces m_Nc_pieces 1 := ⟨⟨zk_5 16 rfl rfl, zk_1 1 rfl rfl, ⟨by decide, by decide, by decide +kernel⟩, by decide⟩, zk_5 14 rfl rfl, zk_5 15 rfl rfl⟩
theorem k_Sr_countPieces : zCalV y_Sr_countPieces m_Sr_countPieces 1 := ⟨⟨zk_5 20 rfl rfl, zk_1 6 rfl rfl, ⟨by decide, by decide, by decide +kernel⟩, by decide⟩, zk_5 18 rfl rfl, zk_5 19 rfl rfl⟩
theorem k_Sr_walk : zCalV y_Sr_walk m_Sr_walk 3 := ⟨⟨zk_5 24 rfl rfl, zk_1 6 rfl rfl, ⟨by decide, by decide, by decide +kernel⟩, by decide⟩, zk_5 23 rfl rfl, zp_3 14 rfl rfl rfl⟩
theorem k_Mo_playedLocal : zCalV y_Mo_playedLocal m_Mo_playedLocal 1 := ⟨⟨zk_5 29 rfl rfl, zk_1 5 rfl rfl, ⟨by decide, by decide, by decide +kernel⟩, by decide⟩, zk_5 27 rfl rfl, zk_5 28 rfl rfl⟩
theorem k_Sr_keepsStep : zCalV y_Sr_keepsStep m_Sr_keepsStep 1 := ⟨⟨zk_5 33 rfl rfl, zk_1 6 rfl rfl, ⟨by decide, by decide, by decide +kernel⟩, by decide⟩, zk_5 32 rfl rfl, zp_3 15 rfl rfl rfl⟩
theorem k_Nc_piece : zCalV y_Nc_piece m_Nc_piece 3 := ⟨⟨zk_5 37 rfl rfl, zk_1 1 rfl rfl, ⟨by decide, by decide, by decide +kernel⟩, by decide⟩, zk_5 35 rfl rfl, zk_5 36 rfl rfl⟩
theorem k_Sr_findPiece : zCalV y_Sr_findPiece m_Sr_findPiece 2 := ⟨⟨zk_5 41 rfl rfl, zk_1 6 rfl rfl, ⟨by decide, by decide, by decide +kernel⟩, by decide⟩, zk_5 39 rfl rfl, zk_5 40 rfl rfl⟩
theorem k_Nc_reach : zCalV y_Nc_reach m_Nc_reach 3 := ⟨⟨zk_5 45 rfl rfl, zk_1 1 rfl rfl, ⟨by decide, by decide, by decide +kernel⟩, by decide⟩, zk_5 43 rfl rfl, zk_5 44 rfl rfl⟩
theorem k_Sr_firstTimeAt : zCalV y_Sr_firstTimeAt m_Sr_firstTimeAt 2 := ⟨⟨zk_5 49 rfl rfl, zk_1 6 rfl rfl, ⟨by decide, by decide, by decide +kernel⟩, by decide⟩, zk_5 47 rfl rfl, zk_5 48 rfl rfl⟩
theorem k_Nc_spans : zCalV y_Nc_spans m_Nc_spans 1 := ⟨⟨zk_5 53 rfl rfl, zk_1 1 rfl rfl, ⟨by decide, by decide, by decide +kernel⟩, by decide⟩, zk_5 51 rfl rfl, zk_5 52 rfl rfl⟩
theorem k_Sr_countSpans : zCalV y_Sr_countSpans m_Sr_countSpans 1 := ⟨⟨zk_5 57 rfl rfl, zk_1 6 rfl rfl, ⟨by decide, by decide, by decide +kernel⟩, by decide⟩, zk_5 55 rfl rfl, zk_5 56 rfl rfl⟩
theorem k_Nc_span : zCalV y_Nc_span m_Nc_span 3 := ⟨⟨zk_5 61 rfl rfl, zk_1 1 rfl rfl, ⟨by decide, by decide, by decide +kernel⟩, by decide⟩, zk_5 59 rfl rfl, zk_5 60 rfl rfl⟩
theorem k_Sr_findSpan : zCalV y_Sr_findSpan m_Sr_findSpan 2 := ⟨⟨zk_5 65 rfl rfl, zk_1 6 rfl rfl, ⟨by decide, by decide, by decide +kernel⟩, by decide⟩, zk_5 63 rfl rfl, zk_5 64 rfl rfl⟩
theorem k_Sr_unlikeLocals : zCalV y_Sr_unlikeLocals m_Sr_unlikeLocals 3 := ⟨⟨zk_5 69 rfl rfl, zk_1 6 rfl rfl, ⟨by decide, by decide, by decide +kernel⟩, by decide⟩, zk_5 67 rfl rfl, zk_5 68 rfl rfl⟩
theorem k_Sr_sortRow : zCalV y_Sr_sortRow m_Sr_sortRow 1 := ⟨⟨zk_5 73 rfl rfl, zk_1 6 rfl rfl, ⟨by decide, by decide, by decide +kernel⟩, by decide⟩, zk_5 72 rfl rfl, zp_4 0 rfl rfl rfl⟩
theorem k_Nc_ticks : zCalV y_Nc_ticks m_Nc_ticks 1 := ⟨⟨zk_5 79 rfl rfl, zk_1 1 rfl rfl, ⟨by decide, by decide, by decide +kernel⟩, by decide⟩, zk_5 77 rfl rfl, zk_5 78 rfl rfl⟩
theorem k_Nc_timesOfBoth : zCalV y_Nc_timesOfBoth m_Nc_timesOfBoth 2 := ⟨⟨zk_5 83 rfl rfl, zk_1 1 rfl rfl, ⟨by decide, by decide, by decide +kernel⟩, by decide⟩, zk_5 82 rfl rfl, zp_4 1 rfl rfl rfl⟩
theorem k_Nc_both : zCalV y_Nc_both m_Nc_both 2 := ⟨⟨zk_5 87 rfl rfl, zk_1 1 rfl rfl, ⟨by decide, by decide, by decide +kernel⟩, by decide⟩, zk_5 85 rfl rfl, zk_5 86 rfl rfl⟩
theorem k_Nc_when : zCalV y_Nc_when m_Nc_when 3 := ⟨⟨zk_5 91 rfl rfl, zk_1 1 rfl rfl, ⟨by decide, by decide, by decide +kernel⟩, by decide⟩, zk_5 89 rfl rfl, zk_5 90 rfl rfl⟩
theorem k_Nc_frames : zCalV y_Nc_frames m_Nc_frames 1 := ⟨⟨zk_5 96 rfl rfl, zk_1 1 rfl rfl, ⟨by decide, by decide, by decide +kernel⟩, by decide⟩, zk_5 94 rfl rfl, zk_5 95 rfl rfl⟩
theorem k_Nc_next : zCalV y_Nc_next m_Nc_next 1 := ⟨⟨zk_5 100 rfl rfl, zk_1 1 rfl rfl, ⟨by decide, by decide, by decide +kernel⟩, by decide⟩, zk_5 98 rfl rfl, zk_5 99 rfl rfl⟩
theorem k_Nc_most : zCalV y_Nc_most m_Nc_most 1 := ⟨⟨zk_5 104 rfl rfl, zk_1 1 rfl rfl, ⟨by decide, by decide, by decide +kernel⟩, by decide⟩, zk_5 102 rfl rfl, zk_5 103 rfl rfl⟩
theorem k_Nc_leavesPlaying : zCalV y_Nc_leavesPlaying m_Nc_leavesPlaying 1 := ⟨⟨zk_5 108 rfl rfl, zk_1 1 rfl rfl, ⟨by decide, by decide, by decide +kernel⟩, by decide⟩, zk_5 107 rfl rfl, zp_4 2 rfl rfl rfl⟩
theorem k_Nc_gaps : zCalV y_Nc_gaps m_Nc_gaps 0 := ⟨⟨zk_5 113 rfl rfl, zk_1 1 rfl rfl, ⟨by decide, by decide, by decide +kernel⟩, by decide⟩, zk_5 111 rfl rfl, zk_5 112 rfl rfl⟩
theorem k_Nc_fit : zCalV y_Nc_fit m_Nc_fit 3 := ⟨⟨zk_5 117 rfl rfl, zk_1 1 rfl rfl, ⟨by decide, by decide, by decide +kernel⟩, by decide⟩, zk_5 115 rfl rfl, zk_5 116 rfl rfl⟩
theorem k_Nc_leastRate : zCalV y_Nc_leastRate m_Nc_leastRate 2 := ⟨⟨zk_5 121 rfl rfl, zk_1 1 rfl rfl, ⟨by decide, by decide, by decide +kernel⟩, by decide⟩, zk_5 120 rfl rfl, zp_4 3 rfl rfl rfl⟩
theorem k_Nc_lastsWithMark : zCalV y_Nc_lastsWithMark m_Nc_lastsWithMark 3 := ⟨⟨zk_5 125 rfl rfl, zk_1 1 rfl rfl, ⟨by decide, by decide, by decide +kernel⟩, by decide⟩, zk_5 124 rfl rfl, zp_4 4 rfl rfl rfl⟩
theorem k_Nc_leastMark : zCalV y_Nc_leastMark m_Nc_leastMark 3 := ⟨⟨zk_5 129 rfl rfl, zk_1 1 rfl rfl, ⟨by decide, by decide, by decide +kernel⟩, by decide⟩, zk_5 128 rfl rfl, zp_4 5 rfl rfl rfl⟩
theorem k_Nc_slack : zCalV y_Nc_slack m_Nc_slack 1 := ⟨⟨zk_5 133 rfl rfl, zk_1 1 rfl rfl, ⟨by decide, by decide, by decide +kernel⟩, by decide⟩, zk_5 131 rfl rfl, zk_5 132 rfl rfl⟩
theorem k_Nc_seek : zCalV y_Nc_seek m_Nc_seek 1 := ⟨⟨zk_5 137 rfl rfl, zk_1 1 rfl rfl, ⟨by decide, by decide, by decide +kernel⟩, by decide⟩, zk_5 135 rfl rfl, zk_5 136 rfl rfl⟩
theorem k_Nc_play : zCalV y_Nc_play m_Nc_play 1 := ⟨⟨zk_5 141 rfl rfl, zk_1 1 rfl rfl, ⟨by decide, by decide, by decide +kernel⟩, by decide⟩, zk_5 139 rfl rfl, zk_5 140 rfl rfl⟩
theorem k_Re_goOn : zCalV y_Re_goOn m_Re_goOn 2 := ⟨⟨zk_5 145 rfl rfl, zk_1 10 rfl rfl, ⟨by decide, by decide, by decide +kernel⟩, by decide⟩, zk_5 143 rfl rfl, zk_5 144 rfl rfl⟩
theorem k_Sg_clips : zCalV y_Sg_clips m_Sg_clips 0 := ⟨⟨zk_5 150 rfl rfl, zk_1 4 rfl rfl, ⟨by decide, by decide, by decide +kernel⟩, by decide⟩, zk_5 148 rfl rfl, zk_5 149 rfl rfl⟩
theorem k_Re_remember : zCalV y_Re_remember m_Re_remember 2 := ⟨⟨zk_5 154 rfl rfl, zk_1 10 rfl rfl, ⟨by decide, by decide, by decide +kernel⟩, by decide⟩, zk_5 153 rfl rfl, zp_4 6 rfl rfl rfl⟩
theorem k_Re_noteEvent : zCalV y_Re_noteEvent m_Re_noteEvent 2 := ⟨⟨zk_5 158 rfl rfl, zk_1 10 rfl rfl, ⟨by decide, by decide, by decide +kernel⟩, by decide⟩, zk_5 157 rfl rfl, zp_4 7 rfl rfl rfl⟩
theorem k_Re_keepEvent : zCalV y_Re_keepEvent m_Re_keepEvent 3 := ⟨⟨zk_5 162 rfl rfl, zk_1 10 rfl rfl, ⟨by decide, by decide, by decide +kernel⟩, by decide⟩, zk_5 161 rfl rfl, zp_4 8 rfl rfl rfl⟩
theorem k_Nc_event : zCalV y_Nc_event m_Nc_event 2 := ⟨⟨zk_5 166 rfl rfl, zk_1 1 rfl rfl, ⟨by decide, by decide, by decide +kernel⟩, by decide⟩, zk_5 164 rfl rfl, zk_5 165 rfl rfl⟩
theorem k_Md_init : zCalI y_Md_init m_Md_init 0 := ⟨⟨zk_5 171 rfl rfl, zk_1 12 rfl rfl, ⟨by decide, by decide, by decide +kernel⟩, by decide⟩, zk_5 170 rfl rfl, rfl, rfl⟩
theorem k_Md_status : zCalV y_Md_status m_Md_status 0 := ⟨⟨zk_6 103 rfl rfl, zk_1 12 rfl rfl, ⟨by decide, by decide, by decide +kernel⟩, by decide⟩, zk_6 101 rfl rfl, zk_6 102 rfl rfl⟩
theorem k_Md_feed : zCalV y_Md_feed m_Md_feed 5 := ⟨⟨zk_6 107 rfl rfl, zk_1 12 rfl rfl, ⟨by decide, by decide, by decide +kernel⟩, by decide⟩, zk_6 105 rfl rfl, zk_6 106 rfl rfl⟩
theorem k_Md_lays : zCalV y_Md_lays m_Md_lays 1 := ⟨⟨zk_6 111 rfl rfl, zk_1 12 rfl rfl, ⟨by decide, by decide, by decide +kernel⟩, by decide⟩, zk_6 110 rfl rfl, zp_4 9 rfl rfl rfl⟩
theorem k_Md_load : zCalV y_Md_load m_Md_load 1 := ⟨⟨zk_6 115 rfl rfl, zk_1 12 rfl rfl, ⟨by decide, by decide, by decide +kernel⟩, by decide⟩, zk_6 113 rfl rfl, zk_6 114 rfl rfl⟩
theorem k_Md_isIn : zCalS y_Md_isIn m_Md_isIn 3 := ⟨⟨zk_6 118 rfl rfl, zk_1 12 rfl rfl, ⟨by decide, by decide, by decide +kernel⟩, by decide⟩, zk_6 117 rfl rfl⟩
theorem k_Md_refuse : zCalV y_Md_refuse m_Md_refuse 1 := ⟨⟨zk_6 122 rfl rfl, zk_1 12 rfl rfl, ⟨by decide, by decide, by decide +kernel⟩, by decide⟩, zk_6 121 rfl rfl, zp_4 10 rfl rfl rfl⟩
theorem k_Md_isShow : zCalV y_Md_isShow m_Md_isShow 1 := ⟨⟨zk_6 126 rfl rfl, zk_1 12 rfl rfl, ⟨by decide, by decide, by decide +kernel⟩, by decide⟩, zk_6 125 rfl rfl, zp_4 11 rfl rfl rfl⟩
theorem k_Md_reads : zCalV y_Md_reads m_Md_reads 0 := ⟨⟨zk_6 130 rfl rfl, zk_1 12 rfl rfl, ⟨by decide, by decide, by decide +kernel⟩, by decide⟩, zk_6 129 rfl rfl, zp_4 12 rfl rfl rfl⟩
theorem k_Md_isOf : zCalV y_Md_isOf m_Md_isOf 3 := ⟨⟨zk_6 134 rfl rfl, zk_1 12 rfl rfl, ⟨by decide, by decide, by decide +kernel⟩, by decide⟩, zk_6 133 rfl rfl, zp_4 13 rfl rfl rfl⟩
theorem k_Md_readsClip : zCalV y_Md_readsClip m_Md_readsClip 2 := ⟨⟨zk_6 140 rfl rfl, zk_1 12 rfl rfl, ⟨by decide, by decide, by decide +kernel⟩, by decide⟩, zk_6 139 rfl rfl, zp_4 14 rfl rfl rfl⟩
theorem k_Md_key : zCalV y_Md_key m_Md_key 0 := ⟨⟨zk_6 144 rfl rfl, zk_1 12 rfl rfl, ⟨by decide, by decide, by decide +kernel⟩, by decide⟩, zk_6 143 rfl rfl, zp_4 15 rfl rfl rfl⟩
theorem k_Md_wants : zCalV y_Md_wants m_Md_wants 2 := ⟨⟨zk_6 148 rfl rfl, zk_1 12 rfl rfl, ⟨by decide, by decide, by decide +kernel⟩, by decide⟩, zk_6 147 rfl rfl, zp_5 0 rfl rfl rfl⟩
theorem k_Md_fails : zCalV y_Md_fails m_Md_fails 1 := ⟨⟨zk_6 152 rfl rfl, zk_1 12 rfl rfl, ⟨by decide, by decide, by decide +kernel⟩, by decide⟩, zk_6 151 rfl rfl, zp_5 1 rfl rfl rfl⟩
theorem k_Md_depth : zCalV y_Md_depth m_Md_depth 1 := ⟨⟨zk_6 156 rfl rfl, zk_1 12 rfl rfl, ⟨by decide, by decide, by decide +kernel⟩, by decide⟩, zk_6 155 rfl rfl, zp_5 2 rfl rfl rfl⟩
theorem k_Md_begins : zCalV y_Md_begins m_Md_begins 4 := ⟨⟨zk_6 160 rfl rfl, zk_1 12 rfl rfl, ⟨by decide, by decide, by decide +kernel⟩, by decide⟩, zk_6 159 rfl rfl, zp_5 3 rfl rfl rfl⟩
theorem k_Md_readsName : zCalV y_Md_readsName m_Md_readsName 1 := ⟨⟨zk_6 164 rfl rfl, zk_1 12 rfl rfl, ⟨by decide, by decide, by decide +kernel⟩, by decide⟩, zk_6 163 rfl rfl, zp_5 4 rfl rfl rfl⟩
theorem k_Md_isName : zCalV y_Md_isName m_Md_isName 0 := ⟨⟨zk_6 168 rfl rfl, zk_1 12 rfl rfl, ⟨by decide, by decide, by decide +kernel⟩, by decide⟩, zk_6 167 rfl rfl, zp_5 5 rfl rfl rfl⟩
theorem k_Md_readsMark : zCalV y_Md_readsMark m_Md_readsMark 2 := ⟨⟨zk_6 172 rfl rfl, zk_1 12 rfl rfl, ⟨by decide, by decide, by decide +kernel⟩, by decide⟩, zk_6 171 rfl rfl, zp_5 6 rfl rfl rfl⟩
theorem k_Md_takesNumber : zCalV y_Md_takesNumber m_Md_takesNumber 2 := ⟨⟨zk_6 176 rfl rfl, zk_1 12 rfl rfl, ⟨by decide, by decide, by decide +kernel⟩, by decide⟩, zk_6 175 rfl rfl, zp_5 7 rfl rfl rfl⟩
theorem k_Md_readsStart : zCalV y_Md_readsStart m_Md_readsStart 2 := ⟨⟨zk_6 180 rfl rfl, zk_1 12 rfl rfl, ⟨by decide, by decide, by decide +kernel⟩, by decide⟩, zk_6 179 rfl rfl, zp_5 8 rfl rfl rfl⟩
theorem k_Md_sign : zCalV y_Md_sign m_Md_sign 1 := ⟨⟨zk_6 184 rfl rfl, zk_1 12 rfl rfl, ⟨by decide, by decide, by decide +kernel⟩, by decide⟩, zk_6 183 rfl rfl, zp_5 9 rfl rfl rfl⟩
theorem k_Md_isSign : zCalV y_Md_isSign m_Md_isSign 1 := ⟨⟨zk_6 188 rfl rfl, zk_1 12 rfl rfl, ⟨by decide, by decide, by decide +kernel⟩, by decide⟩, zk_6 187 rfl rfl, zp_5 10 rfl rfl rfl⟩
theorem k_Md_binds : zCalV y_Md_binds m_Md_binds 1 := ⟨⟨zk_6 192 rfl rfl, zk_1 12 rfl rfl, ⟨by decide, by decide, by decide +kernel⟩, by decide⟩, zk_6 191 rfl rfl, zp_5 11 rfl rfl rfl⟩
theorem k_Md_isByOther : zCalV y_Md_isByOther m_Md_isByOther 2 := ⟨⟨zk_6 196 rfl rfl, zk_1 12 rfl rfl, ⟨by decide, by decide, by decide +kernel⟩, by decide⟩, zk_6 195 rfl rfl, zp_5 12 rfl rfl rfl⟩
theorem k_Md_namedIn : zCalV y_Md_namedIn m_Md_namedIn 3 := ⟨⟨zk_6 200 rfl rfl, zk_1 12 rfl rfl, ⟨by decide, by decide, by decide +kernel⟩, by decide⟩, zk_6 199 rfl rfl, zp_5 13 rfl rfl rfl⟩
theorem k_Md_isRound : zCalV y_Md_isRound m_Md_isRound 2 := ⟨⟨zk_6 204 rfl rfl, zk_1 12 rfl rfl, ⟨by decide, by decide, by decide +kernel⟩, by decide⟩, zk_6 203 rfl rfl, zp_5 14 rfl rfl rfl⟩
theorem k_Md_swaps : zCalV y_Md_swaps m_Md_swaps 0 := ⟨⟨zk_6 208 rfl rfl, zk_1 12 rfl rfl, ⟨by decide, by decide, by decide +kernel⟩, by decide⟩, zk_6 207 rfl rfl, zp_5 15 rfl rfl rfl⟩
theorem k_Md_lasts : zCalV y_Md_lasts m_Md_lasts 0 := ⟨⟨zk_6 212 rfl rfl, zk_1 12 rfl rfl, ⟨by decide, by decide, by decide +kernel⟩, by decide⟩, zk_6 211 rfl rfl, zp_6 0 rfl rfl rfl⟩
theorem k_Md_laysAll : zCalV y_Md_laysAll m_Md_laysAll 0 := ⟨⟨zk_6 216 rfl rfl, zk_1 12 rfl rfl, ⟨by decide, by decide, by decide +kernel⟩, by decide⟩, zk_6 215 rfl rfl, zp_6 1 rfl rfl rfl⟩
theorem k_Md_clips : zCalV y_Md_clips m_Md_clips 0 := ⟨⟨zk_6 220 rfl rfl, zk_1 12 rfl rfl, ⟨by decide, by decide, by decide +kernel⟩, by decide⟩, zk_6 219 rfl rfl, zp_6 2 rfl rfl rfl⟩
theorem k_Md_kind : zCalV y_Md_kind m_Md_kind 1 := ⟨⟨zk_6 225 rfl rfl, zk_1 12 rfl rfl, ⟨by decide, by decide, by decide +kernel⟩, by decide⟩, zk_6 224 rfl rfl, zp_6 3 rfl rfl rfl⟩
theorem k_Md_laysHeap : zCalV y_Md_laysHeap m_Md_laysHeap 1 := ⟨⟨zk_6 229 rfl rfl, zk_1 12 rfl rfl, ⟨by decide, by decide, by decide +kernel⟩, by decide⟩, zk_6 228 rfl rfl, zp_6 4 rfl rfl rfl⟩
theorem k_Md_around : zCalV y_Md_around m_Md_around 1 := ⟨⟨zk_6 233 rfl rfl, zk_1 12 rfl rfl, ⟨by decide, by decide, by decide +kernel⟩, by decide⟩, zk_6 232 rfl rfl, zp_6 5 rfl rfl rfl⟩
theorem k_Md_laysRow : zCalV y_Md_laysRow m_Md_laysRow 1 := ⟨⟨zk_6 237 rfl rfl, zk_1 12 rfl rfl, ⟨by decide, by decide, by decide +kernel⟩, by decide⟩, zk_6 236 rfl rfl, zp_6 6 rfl rfl rfl⟩
theorem k_Md_manyIn : zCalV y_Md_manyIn m_Md_manyIn 1 := ⟨⟨zk_7 1 rfl rfl, zk_1 12 rfl rfl, ⟨by decide, by decide, by decide +kernel⟩, by decide⟩, zk_7 0 rfl rfl, zp_6 7 rfl rfl rfl⟩
theorem k_Md_inPlace : zCalV y_Md_inPlace m_Md_inPlace 2 := ⟨⟨zk_7 5 rfl rfl, zk_1 12 rfl rfl, ⟨by decide, by decide, by decide +kernel⟩, by decide⟩, zk_7 4 rfl rfl, zp_6 8 rfl rfl rfl⟩
theorem k_Md_marked : zCalV y_Md_marked m_Md_marked 2 := ⟨⟨zk_7 9 rfl rfl, zk_1 12 rfl rfl, ⟨by decide, by decide, by decide +kernel⟩, by decide⟩, zk_7 8 rfl rfl, zp_6 9 rfl rfl rfl⟩
theorem k_Md_stays : zCalV y_Md_stays m_Md_stays 0 := ⟨⟨zk_7 14 rfl rfl, zk_1 12 rfl rfl, ⟨by decide, by decide, by decide +kernel⟩, by decide⟩, zk_7 13 rfl rfl, zp_6 10 rfl rfl rfl⟩
theorem k_Md_copy : zCalV y_Md_copy m_Md_copy 2 := ⟨⟨zk_7 18 rfl rfl, zk_1 12 rfl rfl, ⟨by decide, by decide, by decide +kernel⟩, by decide⟩, zk_7 17 rfl rfl, zp_6 11 rfl rfl rfl⟩
theorem k_Md_fault : zCalV y_Md_fault m_Md_fault 1 := ⟨⟨zk_7 22 rfl rfl, zk_1 12 rfl rfl, ⟨by decide, by decide, by decide +kernel⟩, by decide⟩, zk_7 20 rfl rfl, zk_7 21 rfl rfl⟩
theorem k_Md_add : zCalV y_Md_add m_Md_add 2 := ⟨⟨zk_7 26 rfl rfl, zk_1 12 rfl rfl, ⟨by decide, by decide, by decide +kernel⟩, by decide⟩, zk_7 24 rfl rfl, zk_7 25 rfl rfl⟩
theorem k_Md_isClip : zCalV y_Md_isClip m_Md_isClip 1 := ⟨⟨zk_7 30 rfl rfl, zk_1 12 rfl rfl, ⟨by decide, by decide, by decide +kernel⟩, by decide⟩, zk_7 29 rfl rfl, zp_6 12 rfl rfl rfl⟩
theorem k_Md_depthNow : zCalV y_Md_depthNow m_Md_depthNow 1 := ⟨⟨zk_7 34 rfl rfl, zk_1 12 rfl rfl, ⟨by decide, by decide, by decide +kernel⟩, by decide⟩, zk_7 33 rfl rfl, zp_6 13 rfl rfl rfl⟩
theorem k_Md_copyClip : zCalV y_Md_copyClip m_Md_copyClip 3 := ⟨⟨zk_7 38 rfl rfl, zk_1 12 rfl rfl, ⟨by decide, by decide, by decide +kernel⟩, by decide⟩, zk_7 37 rfl rfl, zp_6 14 rfl rfl rfl⟩
theorem k_Md_keeps : zCalV y_Md_keeps m_Md_keeps 0 := ⟨⟨zk_7 42 rfl rfl, zk_1 12 rfl rfl, ⟨by decide, by decide, by decide +kernel⟩, by decide⟩, zk_7 41 rfl rfl, zp_6 15 rfl rfl rfl⟩
theorem k_Md_lose : zCalV y_Md_lose m_Md_lose 1 := ⟨⟨zk_7 46 rfl rfl, zk_1 12 rfl rfl, ⟨by decide, by decide, by decide +kernel⟩, by decide⟩, zk_7 44 rfl rfl, zk_7 45 rfl rfl⟩
theorem k_Md_isWithin : zCalV y_Md_isWithin m_Md_isWithin 2 := ⟨⟨zk_7 50 rfl rfl, zk_1 12 rfl rfl, ⟨by decide, by decide, by decide +kernel⟩, by decide⟩, zk_7 49 rfl rfl, zp_7 0 rfl rfl rfl⟩
theorem k_Md_numberBehind : zCalV y_Md_numberBehind m_Md_numberBehind 2 := ⟨⟨zk_7 54 rfl rfl, zk_1 12 rfl rfl, ⟨by decide, by decide, by decide +kernel⟩, by decide⟩, zk_7 53 rfl rfl, zp_7 1 rfl rfl rfl⟩
theorem k_Md_move : zCalV y_Md_move m_Md_move 2 := ⟨⟨zk_7 58 rfl rfl, zk_1 12 rfl rfl, ⟨by decide, by decide, by decide +kernel⟩, by decide⟩, zk_7 56 rfl rfl, zk_7 57 rfl rfl⟩
theorem k_Md_tries : zCalV y_Md_tries m_Md_tries 0 := ⟨⟨zk_7 62 rfl rfl, zk_1 12 rfl rfl, ⟨by decide, by decide, by decide +kernel⟩, by decide⟩, zk_7 61 rfl rfl, zp_7 2 rfl rfl rfl⟩
theorem k_Md_takesBack : zCalV y_Md_takesBack m_Md_takesBack 0 := ⟨⟨zk_7 66 rfl rfl, zk_1 12 rfl rfl, ⟨by decide, by decide, by decide +kernel⟩, by decide⟩, zk_7 65 rfl rfl, zp_7 3 rfl rfl rfl⟩
theorem k_Md_mark : zCalV y_Md_mark m_Md_mark 3 := ⟨⟨zk_7 70 rfl rfl, zk_1 12 rfl rfl, ⟨by decide, by decide, by decide +kernel⟩, by decide⟩, zk_7 68 rfl rfl, zk_7 69 rfl rfl⟩
theorem k_Md_canBe : zCalS y_Md_canBe m_Md_canBe 2 := ⟨⟨zk_7 73 rfl rfl, zk_1 12 rfl rfl, ⟨by decide, by decide, by decide +kernel⟩, by decide⟩, zk_7 72 rfl rfl⟩
theorem k_Md_start : zCalV y_Md_start m_Md_start 4 := ⟨⟨zk_7 77 rfl rfl, zk_1 12 rfl rfl, ⟨by decide, by decide, by decide +kernel⟩, by decide⟩, zk_7 75 rfl rfl, zk_7 76 rfl rfl⟩
theorem k_Md_isInHeap : zCalV y_Md_isInHeap m_Md_isInHeap 1 := ⟨⟨zk_7 81 rfl rfl, zk_1 12 rfl rfl, ⟨by decide, by decide, by decide +kernel⟩, by decide⟩, zk_7 80 rfl rfl, zp_7 4 rfl rfl rfl⟩
theorem k_Md_press : zCalV y_Md_press m_Md_press 2 := ⟨⟨zk_7 85 rfl rfl, zk_1 12 rfl rfl, ⟨by decide, by decide, by decide +kernel⟩, by decide⟩, zk_7 83 rfl rfl, zk_7 84 rfl rfl⟩
theorem k_Md_unpress : zCalV y_Md_unpress m_Md_unpress 1 := ⟨⟨zk_7 89 rfl rfl, zk_1 12 rfl rfl, ⟨by decide, by decide, by decide +kernel⟩, by decide⟩, zk_7 87 rfl rfl, zk_7 88 rfl rfl⟩
theorem k_Md_undo : zCalV y_Md_undo m_Md_undo 0 := ⟨⟨zk_7 93 rfl rfl, zk_1 12 rfl rfl, ⟨by decide, by decide, by decide +kernel⟩, by decide⟩, zk_7 91 rfl rfl, zk_7 92 rfl rfl⟩
theorem k_Md_many : zCalV y_Md_many m_Md_many 1 := ⟨⟨zk_7 97 rfl rfl, zk_1 12 rfl rfl, ⟨by decide, by decide, by decide +kernel⟩, by decide⟩, zk_7 95 rfl rfl, zk_7 96 rfl rfl⟩
theorem k_Md_leaves : zCalV y_Md_leaves m_Md_leaves 0 := ⟨⟨zk_7 101 rfl rfl, zk_1 12 rfl rfl, ⟨by decide, by decide, by decide +kernel⟩, by decide⟩, zk_7 100 rfl rfl, zp_7 5 rfl rfl rfl⟩
theorem k_Md_opensMany : zCalV y_Md_opensMany m_Md_opensMany 0 := ⟨⟨zk_7 105 rfl rfl, zk_1 12 rfl rfl, ⟨by decide, by decide, by decide +kernel⟩, by decide⟩, zk_7 104 rfl rfl, zp_7 6 rfl rfl rfl⟩
theorem k_Md_changes : zCalV y_Md_changes m_Md_changes 0 := ⟨⟨zk_7 109 rfl rfl, zk_1 12 rfl rfl, ⟨by decide, by decide, by decide +kernel⟩, by decide⟩, zk_7 108 rfl rfl, zp_7 7 rfl rfl rfl⟩
theorem k_Md_laysPresses : zCalV y_Md_laysPresses m_Md_laysPresses 0 := ⟨⟨zk_7 113 rfl rfl, zk_1 12 rfl rfl, ⟨by decide, by decide, by decide +kernel⟩, by decide⟩, zk_7 112 rfl rfl, zp_7 8 rfl rfl rfl⟩
theorem k_Md_sortsPresses : zCalV y_Md_sortsPresses m_Md_sortsPresses 0 := ⟨⟨zk_7 117 rfl rfl, zk_1 12 rfl rfl, ⟨by decide, by decide, by decide +kernel⟩, by decide⟩, zk_7 116 rfl rfl, zp_7 9 rfl rfl rfl⟩
theorem k_Md_laysSlot : zCalV y_Md_laysSlot m_Md_laysSlot 2 := ⟨⟨zk_7 121 rfl rfl, zk_1 12 rfl rfl, ⟨by decide, by decide, by decide +kernel⟩, by decide⟩, zk_7 120 rfl rfl, zp_7 10 rfl rfl rfl⟩
theorem k_Md_laysClip : zCalV y_Md_laysClip m_Md_laysClip 4 := ⟨⟨zk_7 126 rfl rfl, zk_1 12 rfl rfl, ⟨by decide, by decide, by decide +kernel⟩, by decide⟩, zk_7 125 rfl rfl, zp_7 11 rfl rfl rfl⟩
theorem k_Md_beginAt : zCalV y_Md_beginAt m_Md_beginAt 3 := ⟨⟨zk_7 130 rfl rfl, zk_1 12 rfl rfl, ⟨by decide, by decide, by decide +kernel⟩, by decide⟩, zk_7 129 rfl rfl, zp_7 12 rfl rfl rfl⟩
theorem k_Md_byPress : zCalV y_Md_byPress m_Md_byPress 3 := ⟨⟨zk_7 134 rfl rfl, zk_1 12 rfl rfl, ⟨by decide, by decide, by decide +kernel⟩, by decide⟩, zk_7 133 rfl rfl, zp_7 13 rfl rfl rfl⟩
theorem k_Md_samePasses : zCalV y_Md_samePasses m_Md_samePasses 3 := ⟨⟨zk_7 138 rfl rfl, zk_1 12 rfl rfl, ⟨by decide, by decide, by decide +kernel⟩, by decide⟩, zk_7 137 rfl rfl, zp_7 14 rfl rfl rfl⟩
theorem k_Md_strengthBy : zCalV y_Md_strengthBy m_Md_strengthBy 3 := ⟨⟨zk_7 142 rfl rfl, zk_1 12 rfl rfl, ⟨by decide, by decide, by decide +kernel⟩, by decide⟩, zk_7 141 rfl rfl, zp_7 15 rfl rfl rfl⟩
theorem k_Md_least : zCalS y_Md_least m_Md_least 2 := ⟨⟨zk_7 146 rfl rfl, zk_1 12 rfl rfl, ⟨by decide, by decide, by decide +kernel⟩, by decide⟩, zk_7 145 rfl rfl⟩
theorem k_Md_isChange : zCalV y_Md_isChange m_Md_isChange 1 := ⟨⟨zk_7 150 rfl rfl, zk_1 12 rfl rfl, ⟨by decide, by decide, by decide +kernel⟩, by decide⟩, zk_7 149 rfl rfl, zp_8 0 rfl rfl rfl⟩
theorem k_Md_clip : zCalV y_Md_clip m_Md_clip 2 := ⟨⟨zk_7 154 rfl rfl, zk_1 12 rfl rfl, ⟨by decide, by decide, by decide +kernel⟩, by decide⟩, zk_7 152 rfl rfl, zk_7 153 rfl rfl⟩
theorem k_Md_within : zCalV y_Md_within m_Md_within 2 := ⟨⟨zk_7 158 rfl rfl, zk_1 12 rfl rfl, ⟨by decide, by decide, by decide +kernel⟩, by decide⟩, zk_7 156 rfl rfl, zk_7 157 rfl rfl⟩
theorem k_Md_begin : zCalV y_Md_begin m_Md_begin 1 := ⟨⟨zk_7 162 rfl rfl, zk_1 12 rfl rfl, ⟨by decide, by decide, by decide +kernel⟩, by decide⟩, zk_7 160 rfl rfl, zk_7 161 rfl rfl⟩
theorem k_Md_pressed : zCalV y_Md_pressed m_Md_pressed 2 := ⟨⟨zk_7 166 rfl rfl, zk_1 12 rfl rfl, ⟨by decide, by decide, by decide +kernel⟩, by decide⟩, zk_7 164 rfl rfl, zk_7 165 rfl rfl⟩
theorem k_Md_state : zCalV y_Md_state m_Md_state 2 := ⟨⟨zk_7 170 rfl rfl, zk_1 12 rfl rfl, ⟨by decide, by decide, by decide +kernel⟩, by decide⟩, zk_7 168 rfl rfl, zk_7 169 rfl rfl⟩
theorem k_Md_asks : zCalV y_Md_asks m_Md_asks 2 := ⟨⟨zk_7 174 rfl rfl, zk_1 12 rfl rfl, ⟨by decide, by decide, by decide +kernel⟩, by decide⟩, zk_7 173 rfl rfl, zp_8 1 rfl rfl rfl⟩
theorem k_Md_stateOf : zCalV y_Md_stateOf m_Md_stateOf 1 := ⟨⟨zk_7 178 rfl rfl, zk_1 12 rfl rfl, ⟨by decide, by decide, by decide +kernel⟩, by decide⟩, zk_7 177 rfl rfl, zp_8 2 rfl rfl rfl⟩
theorem k_Md_local : zCalV y_Md_local m_Md_local 2 := ⟨⟨zk_7 182 rfl rfl, zk_1 12 rfl rfl, ⟨by decide, by decide, by decide +kernel⟩, by decide⟩, zk_7 180 rfl rfl, zk_7 181 rfl rfl⟩
theorem k_Md_localOf : zCalV y_Md_localOf m_Md_localOf 1 := ⟨⟨zk_7 186 rfl rfl, zk_1 12 rfl rfl, ⟨by decide, by decide, by decide +kernel⟩, by decide⟩, zk_7 185 rfl rfl, zp_8 3 rfl rfl rfl⟩
theorem k_Md_pass : zCalV y_Md_pass m_Md_pass 2 := ⟨⟨zk_7 190 rfl rfl, zk_1 12 rfl rfl, ⟨by decide, by decide, by decide +kernel⟩, by decide⟩, zk_7 188 rfl rfl, zk_7 189 rfl rfl⟩
theorem k_Md_playing : zCalV y_Md_playing m_Md_playing 2 := ⟨⟨zk_7 194 rfl rfl, zk_1 12 rfl rfl, ⟨by decide, by decide, by decide +kernel⟩, by decide⟩, zk_7 192 rfl rfl, zk_7 193 rfl rfl⟩
theorem k_Md_setOf : zCalV y_Md_setOf m_Md_setOf 1 := ⟨⟨zk_7 198 rfl rfl, zk_1 12 rfl rfl, ⟨by decide, by decide, by decide +kernel⟩, by decide⟩, zk_7 197 rfl rfl, zp_8 4 rfl rfl rfl⟩
theorem k_Md_known : zCalV y_Md_known m_Md_known 2 := ⟨⟨zk_7 202 rfl rfl, zk_1 12 rfl rfl, ⟨by decide, by decide, by decide +kernel⟩, by decide⟩, zk_7 200 rfl rfl, zk_7 201 rfl rfl⟩
theorem k_Md_strength : zCalV y_Md_strength m_Md_strength 2 := ⟨⟨zk_7 206 rfl rfl, zk_1 12 rfl rfl, ⟨by decide, by decide, by decide +kernel⟩, by decide⟩, zk_7 204 rfl rfl, zk_7 205 rfl rfl⟩
theorem k_Md_share : zCalV y_Md_share m_Md_share 2 := ⟨⟨zk_7 210 rfl rfl, zk_1 12 rfl rfl, ⟨by decide, by decide, by decide +kernel⟩, by decide⟩, zk_7 208 rfl rfl, zk_7 209 rfl rfl⟩
theorem k_Md_laysStanding : zCalV y_Md_laysStanding m_Md_laysStanding 0 := ⟨⟨zk_7 214 rfl rfl, zk_1 12 rfl rfl, ⟨by decide, by decide, by decide +kernel⟩, by decide⟩, zk_7 213 rfl rfl, zp_8 5 rfl rfl rfl⟩
theorem k_Md_standsAhead : zCalV y_Md_standsAhead m_Md_standsAhead 2 := ⟨⟨zk_7 218 rfl rfl, zk_1 12 rfl rfl, ⟨by decide, by decide, by decide +kernel⟩, by decide⟩, zk_7 217 rfl rfl, zp_8 6 rfl rfl rfl⟩
theorem k_Md_laysShares : zCalV y_Md_laysShares m_Md_laysShares 1 := ⟨⟨zk_7 222 rfl rfl, zk_1 12 rfl rfl, ⟨by decide, by decide, by decide +kernel⟩, by decide⟩, zk_7 221 rfl rfl, zp_8 7 rfl rfl rfl⟩
theorem k_Md_dark : zCalV y_Md_dark m_Md_dark 1 := ⟨⟨zk_7 226 rfl rfl, zk_1 12 rfl rfl, ⟨by decide, by decide, by decide +kernel⟩, by decide⟩, zk_7 224 rfl rfl, zk_7 225 rfl rfl⟩
theorem k_Md_asksLight : zCalV y_Md_asksLight m_Md_asksLight 1 := ⟨⟨zk_7 230 rfl rfl, zk_1 12 rfl rfl, ⟨by decide, by decide, by decide +kernel⟩, by decide⟩, zk_7 229 rfl rfl, zp_8 8 rfl rfl rfl⟩
theorem k_Md_top : zCalV y_Md_top m_Md_top 1 := ⟨⟨zk_7 234 rfl rfl, zk_1 12 rfl rfl, ⟨by decide, by decide, by decide +kernel⟩, by decide⟩, zk_7 232 rfl rfl, zk_7 233 rfl rfl⟩
theorem k_Md_seen : zCalV y_Md_seen m_Md_seen 1 := ⟨⟨zk_7 238 rfl rfl, zk_1 12 rfl rfl, ⟨by decide, by decide, by decide +kernel⟩, by decide⟩, zk_7 236 rfl rfl, zk_7 237 rfl rfl⟩
theorem k_Md_asksLeaf : zCalV y_Md_asksLeaf m_Md_asksLeaf 1 := ⟨⟨zk_8 2 rfl rfl, zk_1 12 rfl rfl, ⟨by decide, by decide, by decide +kernel⟩, by decide⟩, zk_8 1 rfl rfl, zp_8 9 rfl rfl rfl⟩
theorem k_Md_laysLights : zCalV y_Md_laysLights m_Md_laysLights 0 := ⟨⟨zk_8 6 rfl rfl, zk_1 12 rfl rfl, ⟨by decide, by decide, by decide +kernel⟩, by decide⟩, zk_8 5 rfl rfl, zp_8 10 rfl rfl rfl⟩
theorem k_Md_plays : zCalV y_Md_plays m_Md_plays 1 := ⟨⟨zk_8 10 rfl rfl, zk_1 12 rfl rfl, ⟨by decide, by decide, by decide +kernel⟩, by decide⟩, zk_8 9 rfl rfl, zp_8 11 rfl rfl rfl⟩
theorem k_Md_brightest : zCalV y_Md_brightest m_Md_brightest 1 := ⟨⟨zk_8 14 rfl rfl, zk_1 12 rfl rfl, ⟨by decide, by decide, by decide +kernel⟩, by decide⟩, zk_8 12 rfl rfl, zk_8 13 rfl rfl⟩
theorem k_Md_hidden : zCalV y_Md_hidden m_Md_hidden 0 := ⟨⟨zk_8 18 rfl rfl, zk_1 12 rfl rfl, ⟨by decide, by decide, by decide +kernel⟩, by decide⟩, zk_8 16 rfl rfl, zk_8 17 rfl rfl⟩
theorem k_Md_pieces : zCalV y_Md_pieces m_Md_pieces 1 := ⟨⟨zk_8 22 rfl rfl, zk_1 12 rfl rfl, ⟨by decide, by decide, by decide +kernel⟩, by decide⟩, zk_8 20 rfl rfl, zk_8 21 rfl rfl⟩
theorem k_Md_laysTimes : zCalV y_Md_laysTimes m_Md_laysTimes 1 := ⟨⟨zk_8 26 rfl rfl, zk_1 12 rfl rfl, ⟨by decide, by decide, by decide +kernel⟩, by decide⟩, zk_8 25 rfl rfl, zp_8 12 rfl rfl rfl⟩
theorem k_Md_goesPiece : zCalV y_Md_goesPiece m_Md_goesPiece 1 := ⟨⟨zk_8 30 rfl rfl, zk_1 12 rfl rfl, ⟨by decide, by decide, by decide +kernel⟩, by decide⟩, zk_8 29 rfl rfl, zp_8 13 rfl rfl rfl⟩
theorem k_Md_piece : zCalV y_Md_piece m_Md_piece 3 := ⟨⟨zk_8 34 rfl rfl, zk_1 12 rfl rfl, ⟨by decide, by decide, by decide +kernel⟩, by decide⟩, zk_8 32 rfl rfl, zk_8 33 rfl rfl⟩
theorem k_Md_asksPiece : zCalV y_Md_asksPiece m_Md_asksPiece 3 := ⟨⟨zk_8 38 rfl rfl, zk_1 12 rfl rfl, ⟨by decide, by decide, by decide +kernel⟩, by decide⟩, zk_8 37 rfl rfl, zp_8 14 rfl rfl rfl⟩
theorem k_Md_stepOf : zCalV y_Md_stepOf m_Md_stepOf 0 := ⟨⟨zk_8 42 rfl rfl, zk_1 12 rfl rfl, ⟨by decide, by decide, by decide +kernel⟩, by decide⟩, zk_8 41 rfl rfl, zp_8 15 rfl rfl rfl⟩
theorem k_Md_reach : zCalV y_Md_reach m_Md_reach 3 := ⟨⟨zk_8 46 rfl rfl, zk_1 12 rfl rfl, ⟨by decide, by decide, by decide +kernel⟩, by decide⟩, zk_8 44 rfl rfl, zk_8 45 rfl rfl⟩
theorem k_Md_spans : zCalV y_Md_spans m_Md_spans 1 := ⟨⟨zk_8 50 rfl rfl, zk_1 12 rfl rfl, ⟨by decide, by decide, by decide +kernel⟩, by decide⟩, zk_8 48 rfl rfl, zk_8 49 rfl rfl⟩
theorem k_Md_isFirst : zCalV y_Md_isFirst m_Md_isFirst 1 := ⟨⟨zk_8 54 rfl rfl, zk_1 12 rfl rfl, ⟨by decide, by decide, by decide +kernel⟩, by decide⟩, zk_8 53 rfl rfl, zp_9 0 rfl rfl rfl⟩
theorem k_Md_span : zCalV y_Md_span m_Md_span 3 := ⟨⟨zk_8 58 rfl rfl, zk_1 12 rfl rfl, ⟨by decide, by decide, by decide +kernel⟩, by decide⟩, zk_8 56 rfl rfl, zk_8 57 rfl rfl⟩
theorem k_Md_unlike : zCalV y_Md_unlike m_Md_unlike 2 := ⟨⟨zk_8 62 rfl rfl, zk_1 12 rfl rfl, ⟨by decide, by decide, by decide +kernel⟩, by decide⟩, zk_8 61 rfl rfl, zp_9 1 rfl rfl rfl⟩
theorem k_Md_ticks : zCalV y_Md_ticks m_Md_ticks 1 := ⟨⟨zk_8 66 rfl rfl, zk_1 12 rfl rfl, ⟨by decide, by decide, by decide +kernel⟩, by decide⟩, zk_8 64 rfl rfl, zk_8 65 rfl rfl⟩
theorem k_Md_both : zCalV y_Md_both m_Md_both 2 := ⟨⟨zk_8 70 rfl rfl, zk_1 12 rfl rfl, ⟨by decide, by decide, by decide +kernel⟩, by decide⟩, zk_8 68 rfl rfl, zk_8 69 rfl rfl⟩
theorem k_Md_when : zCalV y_Md_when m_Md_when 3 := ⟨⟨zk_8 74 rfl rfl, zk_1 12 rfl rfl, ⟨by decide, by decide, by decide +kernel⟩, by decide⟩, zk_8 72 rfl rfl, zk_8 73 rfl rfl⟩
theorem k_Md_frames : zCalV y_Md_frames m_Md_frames 1 := ⟨⟨zk_8 78 rfl rfl, zk_1 12 rfl rfl, ⟨by decide, by decide, by decide +kernel⟩, by decide⟩, zk_8 76 rfl rfl, zk_8 77 rfl rfl⟩
theorem k_Md_next : zCalV y_Md_next m_Md_next 1 := ⟨⟨zk_8 82 rfl rfl, zk_1 12 rfl rfl, ⟨by decide, by decide, by decide +kernel⟩, by decide⟩, zk_8 80 rfl rfl, zk_8 81 rfl rfl⟩
theorem k_Md_most : zCalV y_Md_most m_Md_most 1 := ⟨⟨zk_8 86 rfl rfl, zk_1 12 rfl rfl, ⟨by decide, by decide, by decide +kernel⟩, by decide⟩, zk_8 84 rfl rfl, zk_8 85 rfl rfl⟩
theorem k_Md_leavesPlaying : zCalV y_Md_leavesPlaying m_Md_leavesPlaying 0 := ⟨⟨zk_8 90 rfl rfl, zk_1 12 rfl rfl, ⟨by decide, by decide, by decide +kernel⟩, by decide⟩, zk_8 89 rfl rfl, zp_9 2 rfl rfl rfl⟩
theorem k_Md_gaps : zCalV y_Md_gaps m_Md_gaps 0 := ⟨⟨zk_8 94 rfl rfl, zk_1 12 rfl rfl, ⟨by decide, by decide, by decide +kernel⟩, by decide⟩, zk_8 92 rfl rfl, zk_8 93 rfl rfl⟩
theorem k_Md_fit : zCalV y_Md_fit m_Md_fit 3 := ⟨⟨zk_8 98 rfl rfl, zk_1 12 rfl rfl, ⟨by decide, by decide, by decide +kernel⟩, by decide⟩, zk_8 96 rfl rfl, zk_8 97 rfl rfl⟩
theorem k_Md_slack : zCalV y_Md_slack m_Md_slack 1 := ⟨⟨zk_8 102 rfl rfl, zk_1 12 rfl rfl, ⟨by decide, by decide, by decide +kernel⟩, by decide⟩, zk_8 100 rfl rfl, zk_8 101 rfl rfl⟩
theorem k_Md_seek : zCalV y_Md_seek m_Md_seek 1 := ⟨⟨zk_8 106 rfl rfl, zk_1 12 rfl rfl, ⟨by decide, by decide, by decide +kernel⟩, by decide⟩, zk_8 104 rfl rfl, zk_8 105 rfl rfl⟩
theorem k_Md_play : zCalV y_Md_play m_Md_play 1 := ⟨⟨zk_8 110 rfl rfl, zk_1 12 rfl rfl, ⟨by decide, by decide, by decide +kernel⟩, by decide⟩, zk_8 108 rfl rfl, zk_8 109 rfl rfl⟩
theorem k_Md_steps : zCalV y_Md_steps m_Md_steps 0 := ⟨⟨zk_8 114 rfl rfl, zk_1 12 rfl rfl, ⟨by decide, by decide, by decide +kernel⟩, by decide⟩, zk_8 113 rfl rfl, zp_9 3 rfl rfl rfl⟩
theorem k_Md_tells : zCalV y_Md_tells m_Md_tells 2 := ⟨⟨zk_8 118 rfl rfl, zk_1 12 rfl rfl, ⟨by decide, by decide, by decide +kernel⟩, by decide⟩, zk_8 117 rfl rfl, zp_9 4 rfl rfl rfl⟩
theorem k_Md_event : zCalV y_Md_event m_Md_event 2 := ⟨⟨zk_8 122 rfl rfl, zk_1 12 rfl rfl, ⟨by decide, by decide, by decide +kernel⟩, by decide⟩, zk_8 120 rfl rfl, zk_8 121 rfl rfl⟩
theorem c_Sg_160 : Cond.constantLong "NestedClips$Stage" 160 (100 : Int64) ∈ zT := zk_2 217 rfl rfl
theorem c_Rd_199 : Cond.constantLong "NestedClips$Reader" 199 (32 : Int64) ∈ zT := zk_3 69 rfl rfl
theorem c_Rd_221 : Cond.constantLong "NestedClips$Reader" 221 (10 : Int64) ∈ zT := zk_3 78 rfl rfl
theorem c_Rd_223 : Cond.constantLong "NestedClips$Reader" 223 (48 : Int64) ∈ zT := zk_3 79 rfl rfl
theorem s_Nc_154 : Cond.fieldLink "NestedClips" 154 "NestedClips" "MARK_LEAST" "[I" ∈ zT := zk_4 89 rfl rfl
theorem s_Nc_157 : Cond.fieldLink "NestedClips" 157 "NestedClips" "MARK_MOST" "[I" ∈ zT := zk_4 90 rfl rfl
theorem c_Mo_40 : Cond.constantLong "NestedClips$Moment" 40 (8 : Int64) ∈ zT := zk_4 160 rfl rfl
theorem s_Sr_58 : Cond.fieldLink "NestedClips$Stretch" 58 "NestedClips$Stretch" "SORT_STEPS" "[I" ∈ zT := zk_5 74 rfl rfl
theorem c_Md_41 : Cond.constantLong "NestedClipsModel" 41 (239874 : Int64) ∈ zT := zk_5 173 rfl rfl
theorem c_Md_43 : Cond.constantLong "NestedClipsModel" 43 (11709 : Int64) ∈ zT := zk_5 174 rfl rfl
theorem c_Md_45 : Cond.constantLong "NestedClipsModel" 45 (14003 : Int64) ∈ zT := zk_5 175 rfl rfl
theorem c_Md_47 : Cond.constantLong "NestedClipsModel" 47 (3501 : Int64) ∈ zT := zk_5 176 rfl rfl
theorem c_Md_49 : Cond.constantLong "NestedClipsModel" 49 (355568 : Int64) ∈ zT := zk_5 177 rfl rfl
theorem c_Md_51 : Cond.constantLong "NestedClipsModel" 51 (10815598 : Int64) ∈ zT := zk_5 178 rfl rfl
theorem c_Md_53 : Cond.constantLong "NestedClipsModel" 53 (2774 : Int64) ∈ zT := zk_5 179 rfl rfl
theorem c_Md_55 : Cond.constantLong "NestedClipsModel" 55 (40187 : Int64) ∈ zT := zk_5 180 rfl rfl
theorem c_Md_57 : Cond.constantLong "NestedClipsModel" 57 (168727 : Int64) ∈ zT := zk_5 181 rfl rfl
theorem c_Md_59 : Cond.constantLong "NestedClipsModel" 59 (6415353 : Int64) ∈ zT := zk_5 182 rfl rfl
theorem c_Md_61 : Cond.constantLong "NestedClipsModel" 61 (257 : Int64) ∈ zT := zk_5 183 rfl rfl
theorem c_Md_63 : Cond.constantLong "NestedClipsModel" 63 (11522 : Int64) ∈ zT := zk_5 184 rfl rfl
theorem c_Md_65 : Cond.constantLong "NestedClipsModel" 65 (47 : Int64) ∈ zT := zk_5 185 rfl rfl
theorem c_Md_67 : Cond.constantLong "NestedClipsModel" 67 (459818 : Int64) ∈ zT := zk_5 186 rfl rfl
theorem c_Md_69 : Cond.constantLong "NestedClipsModel" 69 (31519426 : Int64) ∈ zT := zk_5 187 rfl rfl
theorem c_Md_71 : Cond.constantLong "NestedClipsModel" 71 (8861527 : Int64) ∈ zT := zk_5 188 rfl rfl
theorem c_Md_223 : Cond.constantLong "NestedClipsModel" 223 (27 : Int64) ∈ zT := zk_6 135 rfl rfl
theorem c_Md_225 : Cond.constantLong "NestedClipsModel" 225 (96 : Int64) ∈ zT := zk_6 136 rfl rfl
theorem c_Md_180 : Cond.constantLong "NestedClipsModel" 180 (10 : Int64) ∈ zT := zk_6 221 rfl rfl
theorem c_Md_167 : Cond.constantLong "NestedClipsModel" 167 (1999 : Int64) ∈ zT := zk_7 10 rfl rfl
theorem c_Md_347 : Cond.constantLong "NestedClipsModel" 347 (-1 : Int64) ∈ zT := zk_7 122 rfl rfl
theorem c_Md_359 : Cond.constantLong "NestedClipsModel" 359 (100 : Int64) ∈ zT := zk_7 143 rfl rfl
end
section
def zn : Nat → Option Nat := fun _ => none
/-- a NestedClips$Show at b: the object, then its arrays -/
def zSw (sh : Nat → zSh) (b : Nat) : Prop := b + 10 ≤ 189 ∧ sh b = .inl (5, [.inr .int, .inl (some (b + 1)), .inl (some (b + 2)), .inl (some (b + 3)), .inl (some (b + 4)), .inl (some (b + 5)), .inl (some (b + 6)), .inl (some (b + 7)), .inr .int, .inl (some (b + 8)), .inl (some (b + 9))]) ∧ sh (b + 1) = .inr (0, 12, zn) ∧ sh (b + 2) = .inr (0, 12, zn) ∧ sh (b + 3) = .inr (0, 12, zn) ∧ sh (b + 4) = .inr (0, 12, zn) ∧ sh (b + 5) = .inr (0, 12, zn) ∧ sh (b + 6) = .inr (0, 12, zn) ∧ sh (b + 7) = .inr (0, 108, zn) ∧ sh (b + 8) = .inr (0, 6, zn) ∧ sh (b + 9) = .inr (0, 6, zn)
theorem zSw.a0 {sh : Nat → zSh} {b : Nat} (h : zSw sh b) : sh b = .inl (5, [.inr .int, .inl (some (b + 1)), .inl (some (b + 2)), .inl (some (b + 3)), .inl (some (b + 4)), .inl (some (b + 5)), .inl (some (b + 6)), .inl (some (b + 7)), .inr .int, .inl (some (b + 8)), .inl (some (b + 9))]) := h.2.1
theorem zSw.a1 {sh : Nat → zSh} {b : Nat} (h : zSw sh b) : sh (b + 1) = .inr (0, 12, zn) := h.2.2.1
theorem zSw.a2 {sh : Nat → zSh} {b : Nat} (h : zSw sh b) : sh (b + 2) = .inr (0, 12, zn) := h.2.2.2.1
theorem zSw.a3 {sh : Nat → zSh} {b : Nat} (h : zSw sh b) : sh (b + 3) = .inr (0, 12, zn) := h.2.2.2.2.1
theorem zSw.a4 {sh : Nat → zSh} {b : Nat} (h : zSw sh b) : sh (b + 4) = .inr (0, 12, zn) := h.2.2.2.2.2.1
theorem zSw.a5 {sh : Nat → zSh} {b : Nat} (h : zSw sh b) : sh (b + 5) = .inr (0, 12, zn) := h.2.2.2.2.2.2.1
theorem zSw.a6 {sh : Nat → zSh} {b : Nat} (h : zSw sh b) : sh (b + 6) = .inr (0, 12, zn) := h.2.2.2.2.2.2.2.1
theorem zSw.a7 {sh : Nat → zSh} {b : Nat} (h : zSw sh b) : sh (b + 7) = .inr (0, 108, zn) := h.2.2.2.2.2.2.2.2.1
theorem zSw.a8 {sh : Nat → zSh} {b : Nat} (h : zSw sh b) : sh (b + 8) = .inr (0, 6, zn) := h.2.2.2.2.2.2.2.2.2.1
theorem zSw.a9 {sh : Nat → zSh} {b : Nat} (h : zSw sh b) : sh (b + 9) = .inr (0, 6, zn) := h.2.2.2.2.2.2.2.2.2.2
/-- a NestedClips$Moment at b: the object, then its arrays -/
def zMo (sh : Nat → zSh) (b : Nat) : Prop := b + 8 ≤ 189 ∧ sh b = .inl (1, [.inr .int, .inr .int, .inl (some (b + 1)), .inl (some (b + 2)), .inl (some (b + 3)), .inl (some (b + 4)), .inl (some (b + 5)), .inl (some (b + 6)), .inl (some (b + 7))]) ∧ sh (b + 1) = .inr (0, 12, zn) ∧ sh (b + 2) = .inr (0, 12, zn) ∧ sh (b + 3) = .inr (0, 12, zn) ∧ sh (b + 4) = .inr (0, 12, zn) ∧ sh (b + 5) = .inr (0, 12, zn) ∧ sh (b + 6) = .inr (0, 12, zn) ∧ sh (b + 7) = .inr (0, 12, zn)
theorem zMo.a0 {sh : Nat → zSh} {b : Nat} (h : zMo sh b) : sh b = .inl (1, [.inr .int, .inr .int, .inl (some (b + 1)), .inl (some (b + 2)), .inl (some (b + 3)), .inl (some (b + 4)), .inl (some (b + 5)), .inl (some (b + 6)), .inl (some (b + 7))]) := h.2.1
theorem zMo.a1 {sh : Nat → zSh} {b : Nat} (h : zMo sh b) : sh (b + 1) = .inr (0, 12, zn) := h.2.2.1
theorem zMo.a2 {sh : Nat → zSh} {b : Nat} (h : zMo sh b) : sh (b + 2) = .inr (0, 12, zn) := h.2.2.2.1
theorem zMo.a3 {sh : Nat → zSh} {b : Nat} (h : zMo sh b) : sh (b + 3) = .inr (0, 12, zn) := h.2.2.2.2.1
theorem zMo.a4 {sh : Nat → zSh} {b : Nat} (h : zMo sh b) : sh (b + 4) = .inr (0, 12, zn) := h.2.2.2.2.2.1
theorem zMo.a5 {sh : Nat → zSh} {b : Nat} (h : zMo sh b) : sh (b + 5) = .inr (0, 12, zn) := h.2.2.2.2.2.2.1
theorem zMo.a6 {sh : Nat → zSh} {b : Nat} (h : zMo sh b) : sh (b + 6) = .inr (0, 12, zn) := h.2.2.2.2.2.2.2.1
theorem zMo.a7 {sh : Nat → zSh} {b : Nat} (h : zMo sh b) : sh (b + 7) = .inr (0, 12, zn) := h.2.2.2.2.2.2.2.2
/-- a NestedClips$Layout at b: the object, then its arrays -/
def zLa (sh : Nat → zSh) (b : Nat) : Prop := b + 6 ≤ 189 ∧ sh b = .inl (0, [.inl (some (b + 1)), .inl (some (b + 2)), .inl (some (b + 3)), .inl (some (b + 4)), .inl (some (b + 5)), .inr .int]) ∧ sh (b + 1) = .inr (0, 12, zn) ∧ sh (b + 2) = .inr (0, 12, zn) ∧ sh (b + 3) = .inr (0, 12, zn) ∧ sh (b + 4) = .inr (0, 12, zn) ∧ sh (b + 5) = .inr (3, 12, zn)
theorem zLa.a0 {sh : Nat → zSh} {b : Nat} (h : zLa sh b) : sh b = .inl (0, [.inl (some (b + 1)), .inl (some (b + 2)), .inl (some (b + 3)), .inl (some (b + 4)), .inl (some (b + 5)), .inr .int]) := h.2.1
theorem zLa.a1 {sh : Nat → zSh} {b : Nat} (h : zLa sh b) : sh (b + 1) = .inr (0, 12, zn) := h.2.2.1
theorem zLa.a2 {sh : Nat → zSh} {b : Nat} (h : zLa sh b) : sh (b + 2) = .inr (0, 12, zn) := h.2.2.2.1
theorem zLa.a3 {sh : Nat → zSh} {b : Nat} (h : zLa sh b) : sh (b + 3) = .inr (0, 12, zn) := h.2.2.2.2.1
theorem zLa.a4 {sh : Nat → zSh} {b : Nat} (h : zLa sh b) : sh (b + 4) = .inr (0, 12, zn) := h.2.2.2.2.2.1
theorem zLa.a5 {sh : Nat → zSh} {b : Nat} (h : zLa sh b) : sh (b + 5) = .inr (3, 12, zn) := h.2.2.2.2.2.2
def zmo : Nat → Option Nat := fun i => some (45 + 8 * i)
def zkp : Nat → Option Nat := fun i => some (97 + 10 * i)
def SHL : List zSh := [
  .inl (9, [.inl (some 1), .inl (some 11), .inl (some 21), .inl (some 27), .inl (some 33), .inl (some 93), .inl (some 95), .inl (some 177), .inl (some 179), .inl (some 182), .inr .int, .inr .int, .inr .int]),
  .inl (5, [.inr .int, .inl (some 2), .inl (some 3), .inl (some 4), .inl (some 5), .inl (some 6), .inl (some 7), .inl (some 8), .inr .int, .inl (some 9), .inl (some 10)]),
  .inr (0, 12, zn),
  .inr (0, 12, zn),
  .inr (0, 12, zn),
  .inr (0, 12, zn),
  .inr (0, 12, zn),
  .inr (0, 12, zn),
  .inr (0, 108, zn),
  .inr (0, 6, zn),
  .inr (0, 6, zn),
  .inl (5, [.inr .int, .inl (some 12), .inl (some 13), .inl (some 14), .inl (some 15), .inl (some 16), .inl (some 17), .inl (some 18), .inr .int, .inl (some 19), .inl (some 20)]),
  .inr (0, 12, zn),
  .inr (0, 12, zn),
  .inr (0, 12, zn),
  .inr (0, 12, zn),
  .inr (0, 12, zn),
  .inr (0, 12, zn),
  .inr (0, 108, zn),
  .inr (0, 6, zn),
  .inr (0, 6, zn),
  .inl (0, [.inl (some 22), .inl (some 23), .inl (some 24), .inl (some 25), .inl (some 26), .inr .int]),
  .inr (0, 12, zn),
  .inr (0, 12, zn),
  .inr (0, 12, zn),
  .inr (0, 12, zn),
  .inr (3, 12, zn),
  .inl (0, [.inl (some 28), .inl (some 29), .inl (some 30), .inl (some 31), .inl (some 32), .inr .int]),
  .inr (0, 12, zn),
  .inr (0, 12, zn),
  .inr (0, 12, zn),
  .inr (0, 12, zn),
  .inr (3, 12, zn),
  .inl (6, [.inl (some 1), .inl (some 21), .inl (some 34), .inl (some 42), .inl (some 43), .inl (some 44), .inr .int, .inr .int]),
  .inl (1, [.inr .int, .inr .int, .inl (some 35), .inl (some 36), .inl (some 37), .inl (some 38), .inl (some 39), .inl (some 40), .inl (some 41)]),
  .inr (0, 12, zn),
  .inr (0, 12, zn),
  .inr (0, 12, zn),
  .inr (0, 12, zn),
  .inr (0, 12, zn),
  .inr (0, 12, zn),
  .inr (0, 12, zn),
  .inr (5, 6, zmo),
  .inr (0, 6, zn),
  .inr (0, 12, zn),
  .inl (1, [.inr .int, .inr .int, .inl (some 46), .inl (some 47), .inl (some 48), .inl (some 49), .inl (some 50), .inl (some 51), .inl (some 52)]),
  .inr (0, 12, zn),
  .inr (0, 12, zn),
  .inr (0, 12, zn),
  .inr (0, 12, zn),
  .inr (0, 12, zn),
  .inr (0, 12, zn),
  .inr (0, 12, zn),
  .inl (1, [.inr .int, .inr .int, .inl (some 54), .inl (some 55), .inl (some 56), .inl (some 57), .inl (some 58), .inl (some 59), .inl (some 60)]),
  .inr (0, 12, zn),
  .inr (0, 12, zn),
  .inr (0, 12, zn),
  .inr (0, 12, zn),
  .inr (0, 12, zn),
  .inr (0, 12, zn),
  .inr (0, 12, zn),
  .inl (1, [.inr .int, .inr .int, .inl (some 62), .inl (some 63), .inl (some 64), .inl (some 65), .inl (some 66), .inl (some 67), .inl (some 68)]),
  .inr (0, 12, zn),
  .inr (0, 12, zn),
  .inr (0, 12, zn),
  .inr (0, 12, zn),
  .inr (0, 12, zn),
  .inr (0, 12, zn),
  .inr (0, 12, zn),
  .inl (1, [.inr .int, .inr .int, .inl (some 70), .inl (some 71), .inl (some 72), .inl (some 73), .inl (some 74), .inl (some 75), .inl (some 76)]),
  .inr (0, 12, zn),
  .inr (0, 12, zn),
  .inr (0, 12, zn),
  .inr (0, 12, zn),
  .inr (0, 12, zn),
  .inr (0, 12, zn),
  .inr (0, 12, zn),
  .inl (1, [.inr .int, .inr .int, .inl (some 78), .inl (some 79), .inl (some 80), .inl (some 81), .inl (some 82), .inl (some 83), .inl (some 84)]),
  .inr (0, 12, zn),
  .inr (0, 12, zn),
  .inr (0, 12, zn),
  .inr (0, 12, zn),
  .inr (0, 12, zn),
  .inr (0, 12, zn),
  .inr (0, 12, zn),
  .inl (1, [.inr .int, .inr .int, .inl (some 86), .inl (some 87), .inl (some 88), .inl (some 89), .inl (some 90), .inl (some 91), .inl (some 92)]),
  .inr (0, 12, zn),
  .inr (0, 12, zn),
  .inr (0, 12, zn),
  .inr (0, 12, zn),
  .inr (0, 12, zn),
  .inr (0, 12, zn),
  .inr (0, 12, zn),
  .inl (7, [.inl (some 33), .inl (some 94), .inr .int, .inr .int, .inr .int, .inr .int]),
  .inr (0, 2000, zn),
  .inl (2, [.inl (some 96), .inr .int, .inr .int]),
  .inr (4, 8, zkp),
  .inl (5, [.inr .int, .inl (some 98), .inl (some 99), .inl (some 100), .inl (some 101), .inl (some 102), .inl (some 103), .inl (some 104), .inr .int, .inl (some 105), .inl (some 106)]),
  .inr (0, 12, zn),
  .inr (0, 12, zn),
  .inr (0, 12, zn),
  .inr (0, 12, zn),
  .inr (0, 12, zn),
  .inr (0, 12, zn),
  .inr (0, 108, zn),
  .inr (0, 6, zn),
  .inr (0, 6, zn),
  .inl (5, [.inr .int, .inl (some 108), .inl (some 109), .inl (some 110), .inl (some 111), .inl (some 112), .inl (some 113), .inl (some 114), .inr .int, .inl (some 115), .inl (some 116)]),
  .inr (0, 12, zn),
  .inr (0, 12, zn),
  .inr (0, 12, zn),
  .inr (0, 12, zn),
  .inr (0, 12, zn),
  .inr (0, 12, zn),
  .inr (0, 108, zn),
  .inr (0, 6, zn),
  .inr (0, 6, zn),
  .inl (5, [.inr .int, .inl (some 118), .inl (some 119), .inl (some 120), .inl (some 121), .inl (some 122), .inl (some 123), .inl (some 124), .inr .int, .inl (some 125), .inl (some 126)]),
  .inr (0, 12, zn),
  .inr (0, 12, zn),
  .inr (0, 12, zn),
  .inr (0, 12, zn),
  .inr (0, 12, zn),
  .inr (0, 12, zn),
  .inr (0, 108, zn),
  .inr (0, 6, zn),
  .inr (0, 6, zn),
  .inl (5, [.inr .int, .inl (some 128), .inl (some 129), .inl (some 130), .inl (some 131), .inl (some 132), .inl (some 133), .inl (some 134), .inr .int, .inl (some 135), .inl (some 136)]),
  .inr (0, 12, zn),
  .inr (0, 12, zn),
  .inr (0, 12, zn),
  .inr (0, 12, zn),
  .inr (0, 12, zn),
  .inr (0, 12, zn),
  .inr (0, 108, zn),
  .inr (0, 6, zn),
  .inr (0, 6, zn),
  .inl (5, [.inr .int, .inl (some 138), .inl (some 139), .inl (some 140), .inl (some 141), .inl (some 142), .inl (some 143), .inl (some 144), .inr .int, .inl (some 145), .inl (some 146)]),
  .inr (0, 12, zn),
  .inr (0, 12, zn),
  .inr (0, 12, zn),
  .inr (0, 12, zn),
  .inr (0, 12, zn),
  .inr (0, 12, zn),
  .inr (0, 108, zn),
  .inr (0, 6, zn),
  .inr (0, 6, zn),
  .inl (5, [.inr .int, .inl (some 148), .inl (some 149), .inl (some 150), .inl (some 151), .inl (some 152), .inl (some 153), .inl (some 154), .inr .int, .inl (some 155), .inl (some 156)]),
  .inr (0, 12, zn),
  .inr (0, 12, zn),
  .inr (0, 12, zn),
  .inr (0, 12, zn),
  .inr (0, 12, zn),
  .inr (0, 12, zn),
  .inr (0, 108, zn),
  .inr (0, 6, zn),
  .inr (0, 6, zn),
  .inl (5, [.inr .int, .inl (some 158), .inl (some 159), .inl (some 160), .inl (some 161), .inl (some 162), .inl (some 163), .inl (some 164), .inr .int, .inl (some 165), .inl (some 166)]),
  .inr (0, 12, zn),
  .inr (0, 12, zn),
  .inr (0, 12, zn),
  .inr (0, 12, zn),
  .inr (0, 12, zn),
  .inr (0, 12, zn),
  .inr (0, 108, zn),
  .inr (0, 6, zn),
  .inr (0, 6, zn),
  .inl (5, [.inr .int, .inl (some 168), .inl (some 169), .inl (some 170), .inl (some 171), .inl (some 172), .inl (some 173), .inl (some 174), .inr .int, .inl (some 175), .inl (some 176)]),
  .inr (0, 12, zn),
  .inr (0, 12, zn),
  .inr (0, 12, zn),
  .inr (0, 12, zn),
  .inr (0, 12, zn),
  .inr (0, 12, zn),
  .inr (0, 108, zn),
  .inr (0, 6, zn),
  .inr (0, 6, zn),
  .inl (8, [.inl (some 178), .inr .int]),
  .inr (0, 600, zn),
  .inl (3, [.inl (some 177), .inl (some 11), .inl (some 27), .inr .int, .inr .int, .inr .int, .inr .int, .inr .long, .inl (some 180), .inl (some 181), .inr .int, .inr .int, .inr .int, .inr .int, .inr .int]),
  .inr (1, 12, zn),
  .inr (1, 12, zn),
  .inl (4, [.inr .int, .inr .int, .inl (some 183), .inl (some 184), .inl (some 185), .inl (some 186), .inl (some 187), .inl (some 188)]),
  .inr (0, 64, zn),
  .inr (0, 64, zn),
  .inr (0, 64, zn),
  .inr (0, 64, zn),
  .inr (3, 12, zn),
  .inr (0, 12, zn),
  .inl (10, [.inl (some 190), .inr .int, .inr .int, .inr .int, .inr .int, .inl (some 191), .inl (some 192), .inl (some 193), .inl (some 194), .inl (some 195), .inl (some 196), .inr .int, .inr .int, .inr .int, .inr .int, .inr .int, .inr .int, .inr .int, .inr .int, .inr .int, .inr .int, .inr .long, .inl (some 197), .inl (some 198), .inl (some 199), .inl (some 200), .inl (some 201), .inl (some 202), .inl (some 203), .inl (some 204), .inl (some 205), .inl (some 206), .inl (some 207), .inl (some 208), .inl (some 209), .inr .int, .inr .int, .inl (some 210), .inl (some 211), .inl (some 212), .inl (some 213), .inl (some 214), .inl (some 215), .inr .int, .inr .int, .inl (some 216), .inl (some 217), .inl (some 218), .inl (some 219), .inr .int]),
  .inr (0, 1940, zn),
  .inr (1, 12, zn),
  .inr (1, 12, zn),
  .inr (1, 12, zn),
  .inr (3, 12, zn),
  .inr (3, 12, zn),
  .inr (2, 600, zn),
  .inr (1, 16, zn),
  .inr (1, 12, zn),
  .inr (1, 12, zn),
  .inr (0, 12, zn),
  .inr (0, 12, zn),
  .inr (0, 96, zn),
  .inr (1, 96, zn),
  .inr (1, 96, zn),
  .inr (1, 96, zn),
  .inr (0, 96, zn),
  .inr (0, 6, zn),
  .inr (0, 12, zn),
  .inr (0, 12, zn),
  .inr (0, 12, zn),
  .inr (0, 12, zn),
  .inr (0, 12, zn),
  .inr (0, 12, zn),
  .inr (3, 2000, zn),
  .inr (1, 2000, zn),
  .inr (0, 64, zn),
  .inr (0, 64, zn),
  .inr (0, 64, zn),
  .inr (0, 64, zn)]
def SH (k : Nat) : zSh := SHL.getD k (.inr (0, 0, zn))
theorem sh_1 : zSw SH 1 := ⟨by decide, rfl, rfl, rfl, rfl, rfl, rfl, rfl, rfl, rfl, rfl⟩
theorem sh_11 : zSw SH 11 := ⟨by decide, rfl, rfl, rfl, rfl, rfl, rfl, rfl, rfl, rfl, rfl⟩
theorem sh_97 : zSw SH 97 := ⟨by decide, rfl, rfl, rfl, rfl, rfl, rfl, rfl, rfl, rfl, rfl⟩
theorem sh_107 : zSw SH 107 := ⟨by decide, rfl, rfl, rfl, rfl, rfl, rfl, rfl, rfl, rfl, rfl⟩
theorem sh_117 : zSw SH 117 := ⟨by decide, rfl, rfl, rfl, rfl, rfl, rfl, rfl, rfl, rfl, rfl⟩
theorem sh_127 : zSw SH 127 := ⟨by decide, rfl, rfl, rfl, rfl, rfl, rfl, rfl, rfl, rfl, rfl⟩
theorem sh_137 : zSw SH 137 := ⟨by decide, rfl, rfl, rfl, rfl, rfl, rfl, rfl, rfl, rfl, rfl⟩
theorem sh_147 : zSw SH 147 := ⟨by decide, rfl, rfl, rfl, rfl, rfl, rfl, rfl, rfl, rfl, rfl⟩
theorem sh_157 : zSw SH 157 := ⟨by decide, rfl, rfl, rfl, rfl, rfl, rfl, rfl, rfl, rfl, rfl⟩
theorem sh_167 : zSw SH 167 := ⟨by decide, rfl, rfl, rfl, rfl, rfl, rfl, rfl, rfl, rfl, rfl⟩
theorem mo_34 : zMo SH 34 := ⟨by decide, rfl, rfl, rfl, rfl, rfl, rfl, rfl, rfl⟩
theorem mo_45 : zMo SH 45 := ⟨by decide, rfl, rfl, rfl, rfl, rfl, rfl, rfl, rfl⟩
theorem mo_53 : zMo SH 53 := ⟨by decide, rfl, rfl, rfl, rfl, rfl, rfl, rfl, rfl⟩
theorem mo_61 : zMo SH 61 := ⟨by decide, rfl, rfl, rfl, rfl, rfl, rfl, rfl, rfl⟩
theorem mo_69 : zMo SH 69 := ⟨by decide, rfl, rfl, rfl, rfl, rfl, rfl, rfl, rfl⟩
theorem mo_77 : zMo SH 77 := ⟨by decide, rfl, rfl, rfl, rfl, rfl, rfl, rfl, rfl⟩
theorem mo_85 : zMo SH 85 := ⟨by decide, rfl, rfl, rfl, rfl, rfl, rfl, rfl, rfl⟩
theorem la_21 : zLa SH 21 := ⟨by decide, rfl, rfl, rfl, rfl, rfl, rfl⟩
theorem la_27 : zLa SH 27 := ⟨by decide, rfl, rfl, rfl, rfl, rfl, rfl⟩
/-! contracts of methods that make nothing: by what they answer -/
def zI (n : Nat) (sh : Nat → zSh) (P : Int → zSt → Prop) : zPost := fun r n' sh' σ' => (∃ a, r = some (vi a) ∧ P a σ') ∧ n' = n ∧ sh' = sh
def zL (n : Nat) (sh : Nat → zSh) (P : Int → zSt → Prop) : zPost := fun r n' sh' σ' => (∃ a, r = some (vl a) ∧ P a σ') ∧ n' = n ∧ sh' = sh
def zV (n : Nat) (sh : Nat → zSh) (P : zSt → Prop) : zPost := fun r n' sh' σ' => (r = none ∧ P σ') ∧ n' = n ∧ sh' = sh
def zO (G : zG) (n : Nat) (sh : Nat → zSh) (P : Nat → zSt → Prop) : zPost := fun r n' sh' σ' => (∃ q, r = some (vr G q) ∧ P q σ') ∧ n' = n ∧ sh' = sh
section GO
variable {G : zG} {X : zX} {M : zM} {κ : zK} {n : Nat} {sh : Nat → zSh} {σ : zSt} {pc : Nat} {L L' : List (Nat × Value)} {st : List Value} {post : zPost}
theorem zκ0 (κ : zK) : ((κ.1, κ.2.1 + 0, κ.2.2.1 + 0, κ.2.2.2.1, κ.2.2.2.2) : zK) = κ := rfl
theorem g_retI {a : Int} {P : Int → zSt → Prop} {ty : FieldType} (hd : decode M.1 pc = .ok (.ireturn, 1)) (hr : M.2.2.2.1 = some ty) (hty : ty = .int ∨ ty = .boolean ∧ (a = 0 ∨ a = 1)) (hκ : κ.2.1 ≤ κ.2.2.2.1 ∧ κ.2.2.1 ≤ κ.2.2.2.2) (hp : P a σ) : Go G X M κ n sh σ pc L [vi a] (zI n sh P) := g_iret hd hr hty hκ ⟨⟨a, rfl, hp⟩, rfl, rfl⟩
theorem g_retL {a : Int} {P : Int → zSt → Prop} (hd : decode M.1 pc = .ok (.lreturn, 1)) (hr : M.2.2.2.1 = some .long) (hκ : κ.2.1 ≤ κ.2.2.2.1 ∧ κ.2.2.1 ≤ κ.2.2.2.2) (hp : P a σ) : Go G X M κ n sh σ pc L [vl a] (zL n sh P) := g_lret hd hr hκ ⟨⟨a, rfl, hp⟩, rfl, rfl⟩
theorem g_retV {P : zSt → Prop} (hd : decode M.1 pc = .ok (.return_, 1)) (hr : M.2.2.2.1 = none) (hκ : κ.2.1 ≤ κ.2.2.2.1 ∧ κ.2.2.1 ≤ κ.2.2.2.2) (hp : P σ) : Go G X M κ n sh σ pc L [] (zV n sh P) := g_ret hd hr hκ ⟨⟨rfl, hp⟩, rfl, rfl⟩
theorem g_retO {q : Nat} {P : Nat → zSt → Prop} {cn : String} (hd : decode M.1 pc = .ok (.areturn, 1)) (hr : M.2.2.2.1 = some (.object cn)) (hκ : κ.2.1 ≤ κ.2.2.2.1 ∧ κ.2.2.1 ≤ κ.2.2.2.2) (hp : P q σ) : Go G X M κ n sh σ pc L [vr G q] (zO G n sh P) := g_aret hd hr hκ ⟨⟨q, rfl, hp⟩, rfl, rfl⟩
theorem g_cVI {y : MethodName} {M' : zM} {d na k ci x : Nat} {fl : List (Option Nat ⊕ FieldType)} {As : List Value} {P : Int → zSt → Prop} {st0 : List Value} (hm : Gm G y M' d 0 0 (vr G k :: As) n sh σ (zI n sh P)) (hy : zCalV y M' na) (hl : Cond.methodLink M.2.1 x y ∈ zT) (hd : decode M.1 pc = .ok (.invokevirtual x, 3)) (hk : k < n) (hs : sh k = .inl (ci, fl)) (hc : (zcl[ci]?).map (·.1) = some y.cls) (hn : As.length = na) (hst : st0 = As.reverse ++ vr G k :: st) (hw : (st.map fun v => v.category).sum ≤ 8) (hR : d + 1 ≤ κ.1) (hmc : κ.2.1 ≤ κ.2.2.2.1 ∧ κ.2.2.1 ≤ κ.2.2.2.2)
    (kk : ∀ (a : Int) (σ' : zSt), P a σ' → Go G X M κ n sh σ' (pc + 3) L (vi a :: st) post) : Go G X M κ n sh σ pc L st0 post := by
  refine g_callV hm hy hl hd hk hs hc hn hst hw hR hmc ?_
  rintro r n' sh' σ' ⟨⟨a, rfl, hp⟩, rfl, rfl⟩
  exact ⟨rfl, kk a σ' hp⟩
theorem g_cSI {y : MethodName} {M' : zM} {d na x : Nat} {As : List Value} {P : Int → zSt → Prop} {st0 : List Value} (hm : Gm G y M' d 0 0 As n sh σ (zI n sh P)) (hy : zCalS y M' na) (hl : Cond.methodLink M.2.1 x y ∈ zT) (hd : decode M.1 pc = .ok (.invokestatic x, 3)) (hn : As.length = na) (hst : st0 = As.reverse ++ st) (hw : (st.map fun v => v.category).sum ≤ 8) (hR : d + 1 ≤ κ.1) (hmc : κ.2.1 ≤ κ.2.2.2.1 ∧ κ.2.2.1 ≤ κ.2.2.2.2)
    (kk : ∀ (a : Int) (σ' : zSt), P a σ' → Go G X M κ n sh σ' (pc + 3) L (vi a :: st) post) : Go G X M κ n sh σ pc L st0 post := by
  refine g_callS hm hy hl hd hn hst hw hR hmc ?_
  rintro r n' sh' σ' ⟨⟨a, rfl, hp⟩, rfl, rfl⟩
  exact ⟨rfl, kk a σ' hp⟩
theorem g_cVL {y : MethodName} {M' : zM} {d na k ci x : Nat} {fl : List (Option Nat ⊕ FieldType)} {As : List Value} {P : Int → zSt → Prop} {st0 : List Value} (hm : Gm G y M' d 0 0 (vr G k :: As) n sh σ (zL n sh P)) (hy : zCalV y M' na) (hl : Cond.methodLink M.2.1 x y ∈ zT) (hd : decode M.1 pc = .ok (.invokevirtual x, 3)) (hk : k < n) (hs : sh k = .inl (ci, fl)) (hc : (zcl[ci]?).map (·.1) = some y.cls) (hn : As.length = na) (hst : st0 = As.reverse ++ vr G k :: st) (hw : (st.map fun v => v.category).sum ≤ 8) (hR : d + 1 ≤ κ.1) (hmc : κ.2.1 ≤ κ.2.2.2.1 ∧ κ.2.2.1 ≤ κ.2.2.2.2)
    (kk : ∀ (a : Int) (σ' : zSt), P a σ' → Go G X M κ n sh σ' (pc + 3) L (vl a :: st) post) : Go G X M κ n sh σ pc L st0 post := by
  refine g_callV hm hy hl hd hk hs hc hn hst hw hR hmc ?_
  rintro r n' sh' σ' ⟨⟨a, rfl, hp⟩, rfl, rfl⟩
  exact ⟨rfl, kk a σ' hp⟩
theorem g_cSL {y : MethodName} {M' : zM} {d na x : Nat} {As : List Value} {P : Int → zSt → Prop} {st0 : List Value} (hm : Gm G y M' d 0 0 As n sh σ (zL n sh P)) (hy : zCalS y M' na) (hl : Cond.methodLink M.2.1 x y ∈ zT) (hd : decode M.1 pc = .ok (.invokestatic x, 3)) (hn : As.length = na) (hst : st0 = As.reverse ++ st) (hw : (st.map fun v => v.category).sum ≤ 8) (hR : d + 1 ≤ κ.1) (hmc : κ.2.1 ≤ κ.2.2.2.1 ∧ κ.2.2.1 ≤ κ.2.2.2.2)
    (kk : ∀ (a : Int) (σ' : zSt), P a σ' → Go G X M κ n sh σ' (pc + 3) L (vl a :: st) post) : Go G X M κ n sh σ pc L st0 post := by
  refine g_callS hm hy hl hd hn hst hw hR hmc ?_
  rintro r n' sh' σ' ⟨⟨a, rfl, hp⟩, rfl, rfl⟩
  exact ⟨rfl, kk a σ' hp⟩
theorem g_cVO {y : MethodName} {M' : zM} {d na k ci x : Nat} {fl : List (Option Nat ⊕ FieldType)} {As : List Value} {P : Nat → zSt → Prop} {st0 : List Value} (hm : Gm G y M' d 0 0 (vr G k :: As) n sh σ (zO G n sh P)) (hy : zCalV y M' na) (hl : Cond.methodLink M.2.1 x y ∈ zT) (hd : decode M.1 pc = .ok (.invokevirtual x, 3)) (hk : k < n) (hs : sh k = .inl (ci, fl)) (hc : (zcl[ci]?).map (·.1) = some y.cls) (hn : As.length = na) (hst : st0 = As.reverse ++ vr G k :: st) (hw : (st.map fun v => v.category).sum ≤ 8) (hR : d + 1 ≤ κ.1) (hmc : κ.2.1 ≤ κ.2.2.2.1 ∧ κ.2.2.1 ≤ κ.2.2.2.2)
    (kk : ∀ (a : Nat) (σ' : zSt), P a σ' → Go G X M κ n sh σ' (pc + 3) L (vr G a :: st) post) : Go G X M κ n sh σ pc L st0 post := by
  refine g_callV hm hy hl hd hk hs hc hn hst hw hR hmc ?_
  rintro r n' sh' σ' ⟨⟨a, rfl, hp⟩, rfl, rfl⟩
  exact ⟨rfl, kk a σ' hp⟩
theorem g_cSO {y : MethodName} {M' : zM} {d na x : Nat} {As : List Value} {P : Nat → zSt → Prop} {st0 : List Value} (hm : Gm G y M' d 0 0 As n sh σ (zO G n sh P)) (hy : zCalS y M' na) (hl : Cond.methodLink M.2.1 x y ∈ zT) (hd : decode M.1 pc = .ok (.invokestatic x, 3)) (hn : As.length = na) (hst : st0 = As.reverse ++ st) (hw : (st.map fun v => v.category).sum ≤ 8) (hR : d + 1 ≤ κ.1) (hmc : κ.2.1 ≤ κ.2.2.2.1 ∧ κ.2.2.1 ≤ κ.2.2.2.2)
    (kk : ∀ (a : Nat) (σ' : zSt), P a σ' → Go G X M κ n sh σ' (pc + 3) L (vr G a :: st) post) : Go G X M κ n sh σ pc L st0 post := by
  refine g_callS hm hy hl hd hn hst hw hR hmc ?_
  rintro r n' sh' σ' ⟨⟨a, rfl, hp⟩, rfl, rfl⟩
  exact ⟨rfl, kk a σ' hp⟩
theorem g_cVV {y : MethodName} {M' : zM} {d na k ci x : Nat} {fl : List (Option Nat ⊕ FieldType)} {As : List Value} {P : zSt → Prop} {st0 : List Value} (hm : Gm G y M' d 0 0 (vr G k :: As) n sh σ (zV n sh P)) (hy : zCalV y M' na) (hl : Cond.methodLink M.2.1 x y ∈ zT) (hd : decode M.1 pc = .ok (.invokevirtual x, 3)) (hk : k < n) (hs : sh k = .inl (ci, fl)) (hc : (zcl[ci]?).map (·.1) = some y.cls) (hn : As.length = na) (hst : st0 = As.reverse ++ vr G k :: st) (hw : (st.map fun v => v.category).sum ≤ 8) (hR : d + 1 ≤ κ.1) (hmc : κ.2.1 ≤ κ.2.2.2.1 ∧ κ.2.2.1 ≤ κ.2.2.2.2)
    (kk : ∀ (σ' : zSt), P σ' → Go G X M κ n sh σ' (pc + 3) L st post) : Go G X M κ n sh σ pc L st0 post := by
  refine g_callV hm hy hl hd hk hs hc hn hst hw hR hmc ?_
  rintro r n' sh' σ' ⟨⟨rfl, hp⟩, rfl, rfl⟩
  exact ⟨rfl, kk σ' hp⟩
end GO
end
section
/-! counting, finding, sets of bits -/
def zcnt (p : Nat → Bool) : Nat → Nat
  | 0 => 0
  | n + 1 => zcnt p n + (if p n = true then 1 else 0)
/-- the first one below n, or -1 -/
def zfst (p : Nat → Bool) : Nat → Int
  | 0 => -1
  | n + 1 => if zfst p n = -1 then (if p n = true then (n : Int) else -1) else zfst p n
def zbits (p : Nat → Bool) : Nat → Nat
  | 0 => 0
  | n + 1 => zbits p n + (if p n = true then 2 ^ n else 0)
theorem zcnt_le (p : Nat → Bool) : ∀ n, zcnt p n ≤ n
  | 0 => Nat.le_refl 0
  | n + 1 => by
    have := zcnt_le p n
    unfold zcnt
    split <;> omega
theorem zcnt_t {p : Nat → Bool} {n : Nat} (h : p n = true) : zcnt p (n + 1) = zcnt p n + 1 := by simp [zcnt, h]
theorem zcnt_f {p : Nat → Bool} {n : Nat} (h : p n = false) : zcnt p (n + 1) = zcnt p n := by simp [zcnt, h]
theorem zcnt_congr {p q : Nat → Bool} : ∀ {n : Nat}, (∀ k, k < n → p k = q k) → zcnt p n = zcnt q n
  | 0, _ => rfl
  | n + 1, h => by
    unfold zcnt
    rw [zcnt_congr (fun k hk => h k (by omega)), h n (by omega)]
theorem zfst_none {p : Nat → Bool} : ∀ {n : Nat}, (∀ k, k < n → p k = false) → zfst p n = -1
  | 0, _ => rfl
  | n + 1, h => by
    unfold zfst
    rw [zfst_none (fun k hk => h k (by omega)), h n (by omega)]
    simp
theorem zfst_at {p : Nat → Bool} {i : Nat} (hb : ∀ k, k < i → p k = false) (hi : p i = true) : ∀ {n : Nat}, i < n → zfst p n = (i : Int)
  | 0, h => by omega
  | n + 1, h => by
    unfold zfst
    rcases Nat.lt_or_ge i n with q | q
    · rw [zfst_at hb hi q, if_neg (by omega)]
    · have e : n = i := by omega
      subst e
      rw [zfst_none hb, if_pos rfl, if_pos hi]
theorem zfst_spec {p : Nat → Bool} : ∀ {n : Nat}, (zfst p n = -1 ∧ ∀ k, k < n → p k = false) ∨ ∃ i : Nat, zfst p n = (i : Int) ∧ i < n ∧ p i = true ∧ ∀ k, k < i → p k = false
  | 0 => Or.inl ⟨rfl, fun k h => by omega⟩
  | n + 1 => by
    rcases zfst_spec (p := p) (n := n) with ⟨h1, h2⟩ | ⟨i, h1, h2, h3, h4⟩
    · cases hp : p n with
      | false => exact Or.inl ⟨by unfold zfst; rw [h1, hp]; simp, fun k hk => by
          rcases Nat.lt_or_ge k n with q | q
          · exact h2 k q
          · rw [show k = n by omega]; exact hp⟩
      | true => exact Or.inr ⟨n, by unfold zfst; rw [h1, hp]; simp, by omega, hp, h2⟩
    · exact Or.inr ⟨i, by unfold zfst; rw [if_neg (by omega)]; exact h1, by omega, h3, h4⟩
theorem zfst_congr {p q : Nat → Bool} : ∀ {n : Nat}, (∀ k, k < n → p k = q k) → zfst p n = zfst q n
  | 0, _ => rfl
  | n + 1, h => by
    unfold zfst
    rw [zfst_congr (fun k hk => h k (by omega)), h n (by omega)]
theorem zfst_range {p : Nat → Bool} {n : Nat} : -1 ≤ zfst p n ∧ zfst p n < n := by
  rcases zfst_spec (p := p) (n := n) with ⟨h1, -⟩ | ⟨i, h1, h2, -⟩ <;> omega
theorem zbits_lt (p : Nat → Bool) : ∀ n, zbits p n < 2 ^ n
  | 0 => Nat.zero_lt_one
  | n + 1 => by
    have := zbits_lt p n
    unfold zbits
    rw [Nat.pow_succ]
    split <;> omega
theorem zbits_t {p : Nat → Bool} {n : Nat} (h : p n = true) : zbits p (n + 1) = zbits p n ||| 2 ^ n := by
  have h1 := Nat.two_pow_add_eq_or_of_lt (zbits_lt p n) 1
  simp only [Nat.mul_one] at h1
  rw [Nat.or_comm, ← h1]
  simp [zbits, h, Nat.add_comm]
theorem zbits_f {p : Nat → Bool} {n : Nat} (h : p n = false) : zbits p (n + 1) = zbits p n := by simp [zbits, h]
theorem zbits_congr {p q : Nat → Bool} : ∀ {n : Nat}, (∀ k, k < n → p k = q k) → zbits p n = zbits q n
  | 0, _ => rfl
  | n + 1, h => by
    unfold zbits
    rw [zbits_congr (fun k hk => h k (by omega)), h n (by omega)]
theorem zbits_le {p : Nat → Bool} {n m : Nat} (h : n ≤ m) : zbits p n < 2 ^ m := Nat.lt_of_lt_of_le (zbits_lt p n) (Nat.pow_le_pow_right (by decide) h)
theorem zbits_test {p : Nat → Bool} : ∀ {n k : Nat}, (zbits p n).testBit k = (decide (k < n) && p k)
  | 0, k => by simp [zbits]
  | n + 1, k => by
    cases hp : p n with
    | false =>
      rw [zbits_f hp, zbits_test]
      by_cases hk : k = n
      · subst hk; simp [hp]
      · by_cases h2 : k < n
        · simp [h2, show k < n + 1 by omega]
        · simp [h2, show ¬ k < n + 1 by omega]
    | true =>
      rw [zbits_t hp, Nat.testBit_or, zbits_test, Nat.testBit_two_pow]
      by_cases hk : k = n
      · subst hk; simp [hp]
      · by_cases h2 : k < n
        · simp [h2, show k < n + 1 by omega, show ¬ n = k by omega]
        · simp [h2, show ¬ k < n + 1 by omega, show ¬ n = k by omega]
theorem zb0 {p : Prop} [Decidable p] : (if p then (1 : Int) else 0) = 0 ↔ ¬ p := by split <;> simp_all
theorem zb1 {p : Prop} [Decidable p] : (if p then (1 : Int) else 0) ≠ 0 ↔ p := by split <;> simp_all
theorem zb01 {p : Prop} [Decidable p] : (if p then (1 : Int) else 0) = 0 ∨ (if p then (1 : Int) else 0) = 1 := by split <;> simp
theorem zbr {p : Prop} [Decidable p] : zr (if p then (1 : Int) else 0) := by split <;> exact ⟨by decide, by decide⟩
/-! the machine's bits -/
theorem zi_or {x y : Nat} (hx : x < 2147483648) (hy : y < 2147483648) : Int32.ofInt (x : Int) ||| Int32.ofInt (y : Int) = Int32.ofInt ((x ||| y : Nat) : Int) := by
  have h : x ||| y < 2147483648 := Nat.or_lt_two_pow (n := 31) hx hy
  rw [zi_nat, zi_nat, zi_nat]
  apply Int32.toBitVec_inj.mp
  apply BitVec.eq_of_toNat_eq
  rw [Int32.toBitVec_or, BitVec.toNat_or, pk_tn (by omega), pk_tn (by omega), pk_tn (by omega)]
theorem zi_and {x y : Nat} (hx : x < 2147483648) (hy : y < 2147483648) : Int32.ofInt (x : Int) &&& Int32.ofInt (y : Int) = Int32.ofInt ((x &&& y : Nat) : Int) := by
  have h : x &&& y ≤ x := Nat.and_le_left
  rw [zi_nat, zi_nat, zi_nat]
  apply Int32.toBitVec_inj.mp
  apply BitVec.eq_of_toNat_eq
  rw [Int32.toBitVec_and, BitVec.toNat_and, pk_tn (by omega), pk_tn (by omega), pk_tn (by omega)]
theorem zi_shl1 {i : Nat} (h : i < 31) : Int32.ofInt 1 <<< (Int32.ofInt (i : Int) &&& 31) = Int32.ofInt ((2 ^ i : Nat) : Int) := by
  have : ∀ i : Nat, i < 31 → Int32.ofInt 1 <<< (Int32.ofInt (i : Int) &&& 31) = Int32.ofInt ((2 ^ i : Nat) : Int) := by decide
  exact this i h
theorem zi_shr {x i : Nat} (hx : x < 2147483648) (h : i < 31) : Int32.ofInt (x : Int) >>> (Int32.ofInt (i : Int) &&& 31) = Int32.ofInt ((x / 2 ^ i : Nat) : Int) := by
  have h1 : ∀ i : Nat, i < 31 → ((Int32.ofInt (i : Int) &&& 31).toBitVec.smod 32).toNat = i := by decide
  rw [zi_nat x, zi_nat (x / 2 ^ i)]
  exact pk_shrN hx _ i (h1 i h)
section GO
variable {G : zG} {X : zX} {M : zM} {κ : zK} {n : Nat} {sh : Nat → zSh} {σ : zSt} {pc : Nat} {L L' : List (Nat × Value)} {st : List Value} {post : zPost}
theorem g_ior {x y : Nat} (hd : decode M.1 pc = .ok (.ior, 1)) (hx : x < 2147483648) (hy : y < 2147483648) (k : Go G X M κ n sh σ (pc + 1) L (vi ((x ||| y : Nat) : Int) :: st) post) : Go G X M κ n sh σ pc L (vi (y : Int) :: vi (x : Int) :: st) post := fun C H locs ls h1 h2 h3 h4 => lv_ior C.1 C.2.1 hd (by rw [zi_or hx hy]; exact k C H locs ls h1 h2 h3 h4)
theorem g_iand {x y : Nat} (hd : decode M.1 pc = .ok (.iand, 1)) (hx : x < 2147483648) (hy : y < 2147483648) (k : Go G X M κ n sh σ (pc + 1) L (vi ((x &&& y : Nat) : Int) :: st) post) : Go G X M κ n sh σ pc L (vi (y : Int) :: vi (x : Int) :: st) post := fun C H locs ls h1 h2 h3 h4 => lv_iand C.1 C.2.1 hd (by rw [zi_and hx hy]; exact k C H locs ls h1 h2 h3 h4)
theorem g_ishl1 {i : Nat} (hd : decode M.1 pc = .ok (.ishl, 1)) (hi : i < 31) (k : Go G X M κ n sh σ (pc + 1) L (vi ((2 ^ i : Nat) : Int) :: st) post) : Go G X M κ n sh σ pc L (vi (i : Int) :: vi 1 :: st) post := fun C H locs ls h1 h2 h3 h4 => lv_ishl C.1 C.2.1 hd (by rw [zi_shl1 hi]; exact k C H locs ls h1 h2 h3 h4)
theorem g_ishr {x i : Nat} (hd : decode M.1 pc = .ok (.ishr, 1)) (hx : x < 2147483648) (hi : i < 31) (k : Go G X M κ n sh σ (pc + 1) L (vi ((x / 2 ^ i : Nat) : Int) :: st) post) : Go G X M κ n sh σ pc L (vi (i : Int) :: vi (x : Int) :: st) post := fun C H locs ls h1 h2 h3 h4 => lv_ishr C.1 C.2.1 hd (by rw [zi_shr hx hi]; exact k C H locs ls h1 h2 h3 h4)
end GO
end
section
theorem ac_l : Cond.methodLink "NestedClips$Show" 43 arraycopyName ∈ zT := zk_4 23 rfl rfl
theorem ac_n : Cond.native arraycopyName ∈ zT := zk_4 25 rfl rfl
theorem ac_s : Cond.static arraycopyName ∈ zT := zk_4 24 rfl rfl
theorem ac_i : Cond.initialized "java/lang/System" ∈ zT := zk_1 17 rfl rfl
theorem ma_i : Cond.initialized "java/lang/Math" ∈ zT := zk_1 11 rfl rfl
theorem ma_max_s : Cond.static Lib.Math.max.name ∈ zT := zk_2 164 rfl rfl
theorem ma_max_c : Cond.code Lib.Math.max.name Lib.Math.max.code 2 (some .int) ∈ zT := zk_2 165 rfl rfl
theorem ma_max_La_67 : Cond.methodLink "NestedClips$Layout" 67 Lib.Math.max.name ∈ zT := zk_2 163 rfl rfl
theorem ma_max_Sg_71 : Cond.methodLink "NestedClips$Stage" 71 Lib.Math.max.name ∈ zT := zk_2 225 rfl rfl
theorem ma_min_s : Cond.static Lib.Math.min.name ∈ zT := zk_3 184 rfl rfl
theorem ma_min_c : Cond.code Lib.Math.min.name Lib.Math.min.code 2 (some .int) ∈ zT := zk_3 185 rfl rfl
theorem ma_min_Rd_128 : Cond.methodLink "NestedClips$Reader" 128 Lib.Math.min.name ∈ zT := zk_3 183 rfl rfl
theorem ma_min_Pa_29 : Cond.methodLink "NestedClips$Past" 29 Lib.Math.min.name ∈ zT := zk_4 26 rfl rfl
theorem ma_min_Sg_77 : Cond.methodLink "NestedClips$Stage" 77 Lib.Math.min.name ∈ zT := zk_4 155 rfl rfl
theorem ma_minL_s : Cond.static Lib.MathLoose.min_long.x ∈ zT := zk_2 219 rfl rfl
theorem ma_minL_c : Cond.code Lib.MathLoose.min_long.x Lib.MathLoose.min_long.code 4 (some .long) ∈ zT := zk_2 220 rfl rfl
theorem ma_minL_Sg_162 : Cond.methodLink "NestedClips$Stage" 162 Lib.MathLoose.min_long.x ∈ zT := zk_2 218 rfl rfl
theorem c_In_265 : Cond.constant "java/lang/Integer" 265 (1431655765 : Int32) ∈ zT := zk_4 73 rfl rfl
theorem c_In_266 : Cond.constant "java/lang/Integer" 266 (858993459 : Int32) ∈ zT := zk_4 74 rfl rfl
theorem c_In_267 : Cond.constant "java/lang/Integer" 267 (252645135 : Int32) ∈ zT := zk_4 75 rfl rfl
/-- m numbers of row src from sp on come to row dst from dp on -/
def zcp (σ : zSt) (src sp dst dp m : Nat) : zSt := fun a j => if a = dst ∧ dp ≤ j ∧ j < dp + m then σ src (sp + (j - dp)) else σ a j
theorem zcp_other {σ : zSt} {src sp dst dp m a : Nat} (h : a ≠ dst) : zcp σ src sp dst dp m a = σ a := by
  funext j
  exact if_neg (fun q => h q.1)
theorem zcp_in {σ : zSt} {src sp dst dp m j : Nat} (h : dp ≤ j) (h2 : j < dp + m) : zcp σ src sp dst dp m dst j = σ src (sp + (j - dp)) := if_pos ⟨rfl, h, h2⟩
theorem zcp_out {σ : zSt} {src sp dst dp m j : Nat} (h : j < dp ∨ dp + m ≤ j) : zcp σ src sp dst dp m dst j = σ dst j := if_neg (fun q => by omega)
theorem zmax {a b : Int} (ha : zr a) (hb : zr b) : (if Int32.ofInt a < Int32.ofInt b then Int32.ofInt b else Int32.ofInt a) = Int32.ofInt (max a b) := by
  simp only [zi_lt ha hb]
  split
  · rw [show max a b = b by omega]
  · rw [show max a b = a by omega]
theorem zmin {a b : Int} (ha : zr a) (hb : zr b) : (if Int32.ofInt b < Int32.ofInt a then Int32.ofInt b else Int32.ofInt a) = Int32.ofInt (min a b) := by
  simp only [zi_lt hb ha]
  split
  · rw [show min a b = b by omega]
  · rw [show min a b = a by omega]
theorem zminL {a b : Int} (ha : zrl a) (hb : zrl b) : (if Int64.ofInt b < Int64.ofInt a then Int64.ofInt b else Int64.ofInt a) = Int64.ofInt (min a b) := by
  simp only [zl_lt hb ha]
  split
  · rw [show min a b = b by omega]
  · rw [show min a b = a by omega]
section GO
variable {G : zG} {X : zX} {M : zM} {κ : zK} {n : Nat} {sh : Nat → zSh} {σ : zSt} {pc : Nat} {L L' : List (Nat × Value)} {st : List Value} {post : zPost}
theorem g_copy {x k0 k1 m0 m1 sp dp c : Nat} {a0 a1 a2 : Int} {g0 g1 : Nat → Option Nat} (hl : Cond.methodLink M.2.1 x arraycopyName ∈ zT) (hd : decode M.1 pc = .ok (.invokestatic x, 3)) (hk0 : k0 < n) (hk1 : k1 < n) (hs0 : sh k0 = .inr (0, m0, g0)) (hs1 : sh k1 = .inr (0, m1, g1)) (e0 : a0 = (sp : Int)) (e1 : a1 = (dp : Int)) (e2 : a2 = (c : Int)) (b0 : sp + c ≤ m0) (b1 : dp + c ≤ m1) (hm : m0 < 2147483648 ∧ m1 < 2147483648) (hw : (st.map fun v => v.category).sum ≤ 8) (hR : 1 ≤ κ.1) (kk : Go G X M κ n sh (zcp σ k0 sp k1 dp c) (pc + 3) L st post) : Go G X M κ n sh σ pc L (vi a2 :: vi a1 :: vr G k1 :: vi a0 :: vr G k0 :: st) post := fun C H locs ls h1 h2 h3 h4 => by
  have hts := C.2.2.2.2.1
  have nn : ∀ {a : Int} {q : Nat}, a = (q : Int) → q < 2147483648 → ¬ Int32.ofInt a < 0 := fun {a q} e h => by
    rw [← zi_z, zi_lt ⟨by omega, by omega⟩ zr0]; omega
  have hroom : (st.map fun v => v.category).sum + (nativeFrameWords "java/lang/System" "arraycopy" 5 + 11) ≤ (zR κ.1 κ.2.2.2.1 κ.2.2.2.2).locals := by
    have q : nativeFrameWords "java/lang/System" "arraycopy" 5 = 7 := by decide
    show _ ≤ 64 * κ.1
    omega
  refine va_copyi C.1 C.2.1 (by rw [C.2.2.1]; exact h4.1.symm) C.2.2.2.1 (hts _ hl) (hts _ ac_n) (hts _ ac_s) (hts _ ac_i) C.2.2.2.2.2.2.2.2.1 h2 (zW_D G n sh σ) h3 k0 k1 0 0 (ty := .int) (f := fun i => Int32.ofInt (σ k0 i)) (g := fun i => Int32.ofInt (σ k1 i)) (by rw [zW_get hk0, hs0]; rfl) (by rw [zW_get hk1, hs1]; rfl) rfl rfl rfl (nn e0 (by omega)) (nn e1 (by omega)) (nn e2 (by omega)) (by rw [zi_cl e0 (by omega), zi_cl e2 (by omega)]; exact b0) (by rw [zi_cl e1 (by omega), zi_cl e2 (by omega)]; exact b1) (fun _ _ => rfl) hR hroom hd (fun H1 locs1 hP _ hS1 => ?_)
  rw [zi_cl e0 (by omega), zi_cl e1 (by omega), zi_cl e2 (by omega)] at hP
  have e : (zW G n sh σ).set k1 (G.2.1 + k1, .inl (G.2.2.2.2.1 0, m1, .inl (va_cpy (fun i => Int32.ofInt (σ k0 i)) (fun i => Int32.ofInt (σ k1 i)) sp dp c))) = zW G n sh (zcp σ k0 sp k1 dp c) := by
    refine zW_set hk1 ?_ (fun _ _ => rfl) (fun i hi => zcp_other hi)
    rw [hs1]
    have e3 : va_cpy (fun i => Int32.ofInt (σ k0 i)) (fun i => Int32.ofInt (σ k1 i)) sp dp c = fun i => Int32.ofInt (zcp σ k0 sp k1 dp c k1 i) := by
      funext i
      unfold va_cpy zcp
      by_cases hi : dp ≤ i ∧ i < dp + c
      · rw [if_pos hi, if_pos ⟨rfl, hi⟩]
      · rw [if_neg hi, if_neg (fun q => hi q.2)]
    rw [e3]; rfl
  rw [e] at hP
  exact kk C H1 locs1 ls h1 hP hS1 h4
theorem g_max {x : Nat} {a b : Int} (hl : Cond.methodLink M.2.1 x Lib.Math.max.name ∈ zT) (hd : decode M.1 pc = .ok (.invokestatic x, 3)) (ha : zr a) (hb : zr b) (hw : (st.map fun v => v.category).sum ≤ 8) (hR : 1 ≤ κ.1) (hκ : κ.2.1 ≤ κ.2.2.2.1 ∧ κ.2.2.1 ≤ κ.2.2.2.2) (kk : Go G X M κ n sh σ (pc + 3) L (vi (max a b) :: st) post) : Go G X M κ n sh σ pc L (vi b :: vi a :: st) post := fun C H locs ls h1 h2 h3 h4 => by
  have hts := C.2.2.2.2.1
  refine va_mmax C.1 C.2.1 (by rw [C.2.2.1]; exact h4.1.symm) C.2.2.2.1 (hts _ hl) (hts _ ma_max_s) (hts _ ma_i) (hts _ ma_max_c) hR (by show _ ≤ 64 * κ.1; omega) hκ.1 hκ.2 hd ?_
  rw [zmax ha hb]
  exact kk C H locs ls h1 h2 h3 h4
theorem g_min {x : Nat} {a b : Int} (hl : Cond.methodLink M.2.1 x Lib.Math.min.name ∈ zT) (hd : decode M.1 pc = .ok (.invokestatic x, 3)) (ha : zr a) (hb : zr b) (hw : (st.map fun v => v.category).sum ≤ 8) (hR : 1 ≤ κ.1) (hκ : κ.2.1 ≤ κ.2.2.2.1 ∧ κ.2.2.1 ≤ κ.2.2.2.2) (kk : Go G X M κ n sh σ (pc + 3) L (vi (min a b) :: st) post) : Go G X M κ n sh σ pc L (vi b :: vi a :: st) post := fun C H locs ls h1 h2 h3 h4 => by
  have hts := C.2.2.2.2.1
  refine va_mmin C.1 C.2.1 (by rw [C.2.2.1]; exact h4.1.symm) C.2.2.2.1 (hts _ hl) (hts _ ma_min_s) (hts _ ma_i) (hts _ ma_min_c) hR (by show _ ≤ 64 * κ.1; omega) hκ.1 hκ.2 hd ?_
  rw [zmin ha hb]
  exact kk C H locs ls h1 h2 h3 h4
theorem g_minL {x : Nat} {a b : Int} (hl : Cond.methodLink M.2.1 x Lib.MathLoose.min_long.x ∈ zT) (hd : decode M.1 pc = .ok (.invokestatic x, 3)) (ha : zrl a) (hb : zrl b) (hw : (st.map fun v => v.category).sum ≤ 8) (hR : 1 ≤ κ.1) (hκ : κ.2.1 ≤ κ.2.2.2.1 ∧ κ.2.2.1 ≤ κ.2.2.2.2) (kk : Go G X M κ n sh σ (pc + 3) L (vl (min a b) :: st) post) : Go G X M κ n sh σ pc L (vl b :: vl a :: st) post := fun C H locs ls h1 h2 h3 h4 => by
  have hts := C.2.2.2.2.1
  refine va_mmin_long C.1 C.2.1 (by rw [C.2.2.1]; exact h4.1.symm) C.2.2.2.1 (hts _ hl) (hts _ ma_minL_s) (hts _ ma_i) (hts _ ma_minL_c) hR (by show _ ≤ 64 * κ.1; omega) hκ.1 hκ.2 hd ?_
  rw [zminL ha hb]
  exact kk C H locs ls h1 h2 h3 h4
theorem g_ldcw {x : Nat} {a : Int} {w : Int32} (hd : decode M.1 pc = .ok (.ldc_w x, 3)) (hw : Cond.constant M.2.1 x w ∈ zT) (ha : w = Int32.ofInt a) (k : Go G X M κ n sh σ (pc + 3) L (vi a :: st) post) : Go G X M κ n sh σ pc L st post := fun C H locs ls h1 h2 h3 h4 => by
  subst ha
  exact lv_ldcw C.1 C.2.1 C.2.2.2.1 (C.2.2.2.2.1 _ hw) hd (k C H locs ls h1 h2 h3 h4)
theorem g_iushr {x i : Nat} (hd : decode M.1 pc = .ok (.iushr, 1)) (hx : x < 2147483648) (hi : i < 31) (k : Go G X M κ n sh σ (pc + 1) L (vi ((x / 2 ^ i : Nat) : Int) :: st) post) : Go G X M κ n sh σ pc L (vi (i : Int) :: vi (x : Int) :: st) post := fun C H locs ls h1 h2 h3 h4 => by
  have h9 : ∀ i : Nat, i < 31 → (((Int32.ofInt (i : Int)).toUInt32 &&& Int32.toUInt32 31).toBitVec % 32).toNat = i := by decide
  refine lv_iushr C.1 C.2.1 hd (v := Int32.ofInt ((x / 2 ^ i : Nat) : Int)) ?_ (k C H locs ls h1 h2 h3 h4)
  rw [zi_nat x, zi_nat (x / 2 ^ i)]
  exact pk_ushrN (by omega) _ i (h9 i hi)
end GO
/-- how many of the twelve lowest bits are set -/
def zpop (x : Nat) : Nat := zcnt (fun k => x.testBit k) 12
def zbc1 (x : Nat) : Nat := x - (x / 2 ^ 1 &&& 1431655765)
def zbc2 (x : Nat) : Nat := (zbc1 x &&& 858993459) + (zbc1 x / 2 ^ 2 &&& 858993459)
def zbc3 (x : Nat) : Nat := (zbc2 x + zbc2 x / 2 ^ 4) &&& 252645135
def zbc4 (x : Nat) : Nat := zbc3 x + zbc3 x / 2 ^ 8
def zbc5 (x : Nat) : Nat := zbc4 x + zbc4 x / 2 ^ 16
def zbcP (x : Nat) : Prop := ((x / 2 ^ 1 &&& 1431655765) ≤ x ∧ zbc1 x < 65536 ∧ zbc2 x < 65536 ∧ zbc3 x < 65536 ∧ zbc4 x < 65536 ∧ zbc5 x < 65536) ∧ (zbc5 x &&& 63) = zpop x
theorem zbc_dec : (List.range 64).all (fun a => (List.range 64).all (fun b => decide (((64 * a + b) / 2 ^ 1 &&& 1431655765) ≤ 64 * a + b) && decide (zbc1 (64 * a + b) < 65536) && decide (zbc2 (64 * a + b) < 65536) && decide (zbc3 (64 * a + b) < 65536) && decide (zbc4 (64 * a + b) < 65536) && decide (zbc5 (64 * a + b) < 65536) && decide ((zbc5 (64 * a + b) &&& 63) = zpop (64 * a + b)))) = true := by decide +kernel
theorem zbc_all (x : Nat) (hx : x < 4096) : zbcP x := by
  have h1 := List.all_eq_true.mp zbc_dec (x / 64) (List.mem_range.mpr (by omega))
  have h2 := List.all_eq_true.mp h1 (x % 64) (List.mem_range.mpr (by omega))
  rw [show 64 * (x / 64) + x % 64 = x by omega] at h2
  simp only [Bool.and_eq_true, decide_eq_true_eq] at h2
  obtain ⟨⟨⟨⟨⟨⟨a, b⟩, c⟩, d⟩, e⟩, f⟩, g⟩ := h2
  exact ⟨⟨a, b, c, d, e, f⟩, g⟩
theorem c_In_bitCount {G : zG} {n : Nat} {sh : Nat → zSh} {σ : zSt} {x : Nat} (hx : x < 4096) : Gm G y_In_bitCount m_In_bitCount 0 0 0 [vi x] n sh σ (zI n sh (fun a σ' => a = (zpop x : Int) ∧ σ' = σ)) := by
  obtain ⟨⟨q0, q1, q2, q3, q4, q5⟩, q6⟩ := zbc_all x hx
  refine g_enter (L := [(0, _)]) (by decide) rfl rfl rfl (Nat.le_of_ble_eq_true rfl) (fun X => ?_)
  refine g_iload_n (i := 0) (by decide +kernel) rfl ?_
  refine g_iload_n (i := 0) (by decide +kernel) rfl ?_
  refine g_iconst (a := 1) (by decide +kernel) ?_
  refine g_iushr (i := 1) (by decide +kernel) (by omega) (by omega) ?_
  refine g_ldcw (a := 1431655765) (by decide +kernel) c_In_265 (by decide) ?_
  refine g_iand (y := 1431655765) (by decide +kernel) (by omega) (by omega) ?_
  refine g_isub (by decide +kernel) ?_
  refine g_eq (st' := [vi (zbc1 x : Nat)]) ?_ rfl rfl (by rw [show (x : Int) - ((x / 2 ^ 1 &&& 1431655765 : Nat) : Int) = ((zbc1 x : Nat) : Int) by unfold zbc1; omega])
  refine g_istore_n (i := 0) (L' := [(0, _)]) (by decide +kernel) rfl rfl ?_
  refine g_iload_n (i := 0) (by decide +kernel) rfl ?_
  refine g_ldcw (a := 858993459) (by decide +kernel) c_In_266 (by decide) ?_
  refine g_iand (y := 858993459) (by decide +kernel) (by omega) (by omega) ?_
  refine g_iload_n (i := 0) (by decide +kernel) rfl ?_
  refine g_iconst (a := 2) (by decide +kernel) ?_
  refine g_iushr (i := 2) (by decide +kernel) (by omega) (by omega) ?_
  refine g_ldcw (a := 858993459) (by decide +kernel) c_In_266 (by decide) ?_
  refine g_iand (y := 858993459) (by decide +kernel) (by omega) (by omega) ?_
  refine g_iadd (by decide +kernel) ?_
  refine g_eq (st' := [vi (zbc2 x : Nat)]) ?_ rfl rfl (by rw [show ((zbc1 x &&& 858993459 : Nat) : Int) + ((zbc1 x / 2 ^ 2 &&& 858993459 : Nat) : Int) = ((zbc2 x : Nat) : Int) by unfold zbc2; omega])
  refine g_istore_n (i := 0) (L' := [(0, _)]) (by decide +kernel) rfl rfl ?_
  refine g_iload_n (i := 0) (by decide +kernel) rfl ?_
  refine g_iload_n (i := 0) (by decide +kernel) rfl ?_
  refine g_iconst (a := 4) (by decide +kernel) ?_
  refine g_iushr (i := 4) (by decide +kernel) (by omega) (by omega) ?_
  refine g_iadd (by decide +kernel) ?_
  refine g_eq (st' := [vi (zbc2 x + zbc2 x / 2 ^ 4 : Nat)]) ?_ rfl rfl (by rw [show ((zbc2 x : Nat) : Int) + ((zbc2 x / 2 ^ 4 : Nat) : Int) = ((zbc2 x + zbc2 x / 2 ^ 4 : Nat) : Int) by omega])
  refine g_ldcw (a := 252645135) (by decide +kernel) c_In_267 (by decide) ?_
  refine g_iand (x := zbc2 x + zbc2 x / 2 ^ 4) (y := 252645135) (by decide +kernel) (by omega) (by omega) ?_
  refine g_eq (st' := [vi (zbc3 x : Nat)]) ?_ rfl rfl (by rw [show ((zbc2 x + zbc2 x / 2 ^ 4 &&& 252645135 : Nat) : Int) = ((zbc3 x : Nat) : Int) by rfl])
  refine g_istore_n (i := 0) (L' := [(0, _)]) (by decide +kernel) rfl rfl ?_
  refine g_iload_n (i := 0) (by decide +kernel) rfl ?_
  refine g_iload_n (i := 0) (by decide +kernel) rfl ?_
  refine g_bipush (a := 8) (by decide +kernel) (by decide) ?_
  refine g_iushr (i := 8) (by decide +kernel) (by omega) (by omega) ?_
  refine g_iadd (by decide +kernel) ?_
  refine g_eq (st' := [vi (zbc4 x : Nat)]) ?_ rfl rfl (by rw [show ((zbc3 x : Nat) : Int) + ((zbc3 x / 2 ^ 8 : Nat) : Int) = ((zbc4 x : Nat) : Int) by unfold zbc4; omega])
  refine g_istore_n (i := 0) (L' := [(0, _)]) (by decide +kernel) rfl rfl ?_
  refine g_iload_n (i := 0) (by decide +kernel) rfl ?_
  refine g_iload_n (i := 0) (by decide +kernel) rfl ?_
  refine g_bipush (a := 16) (by decide +kernel) (by decide) ?_
  refine g_iushr (i := 16) (by decide +kernel) (by omega) (by omega) ?_
  refine g_iadd (by decide +kernel) ?_
  refine g_eq (st' := [vi (zbc5 x : Nat)]) ?_ rfl rfl (by rw [show ((zbc4 x : Nat) : Int) + ((zbc4 x / 2 ^ 16 : Nat) : Int) = ((zbc5 x : Nat) : Int) by unfold zbc5; omega])
  refine g_istore_n (i := 0) (L' := [(0, _)]) (by decide +kernel) rfl rfl ?_
  refine g_iload_n (i := 0) (by decide +kernel) rfl ?_
  refine g_bipush (a := 63) (by decide +kernel) (by decide) ?_
  refine g_iand (y := 63) (by decide +kernel) (by omega) (by omega) ?_
  refine g_retI (by decide +kernel) rfl (Or.inl rfl) ⟨by decide, by decide⟩ ?_
  exact ⟨by rw [q6], rfl⟩
end
section
/-! THE SHOW: a Show at b holds: b 0 clips, b 8 presses; b+1 kind, b+2 around, b+3 place, b+4 how, b+5 other, b+6 much, b+7 marks, b+8 keys, b+9 times -/
def zGood (σ : zSt) (b : Nat) : Prop := (0 ≤ σ b 0 ∧ σ b 0 ≤ 12 ∧ 0 ≤ σ b 8 ∧ σ b 8 ≤ 6) ∧
  (∀ k, k < 12 → (0 ≤ σ (b + 1) k ∧ σ (b + 1) k ≤ 2) ∧ (-1 ≤ σ (b + 2) k ∧ σ (b + 2) k ≤ 11) ∧ (0 ≤ σ (b + 3) k ∧ σ (b + 3) k ≤ 12) ∧ (0 ≤ σ (b + 4) k ∧ σ (b + 4) k ≤ 3) ∧ (-1 ≤ σ (b + 5) k ∧ σ (b + 5) k ≤ 11) ∧ (0 ≤ σ (b + 6) k ∧ σ (b + 6) k ≤ 999)) ∧
  (∀ k, k < 108 → 0 ≤ σ (b + 7) k ∧ σ (b + 7) k ≤ 999) ∧ (∀ i, i < 6 → (0 ≤ σ (b + 8) i ∧ σ (b + 8) i ≤ 3) ∧ (0 ≤ σ (b + 9) i ∧ σ (b + 9) i ≤ 1999))
theorem c_Sh_has {G : zG} {n : Nat} {σ : zSt} {b : Nat} {k : Int} (hn : 189 ≤ n) (hS : zSw SH b) (hk : zr k) (hc : 0 ≤ σ b 0 ∧ σ b 0 ≤ 12) : Gm G y_Sh_has m_Sh_has 0 0 0 [vr G b, vi k] n SH σ (zI n SH (fun a σ' => a = (if 0 ≤ k ∧ k < σ b 0 then 1 else 0) ∧ σ' = σ)) := by
  refine g_enter (L := [(0, _), (1, _)]) (by decide) rfl rfl rfl (Nat.le_of_ble_eq_true rfl) (fun X => ?_)
  have hb := hS.1
  refine g_iload_n (i := 1) (by decide +kernel) rfl ?_
  refine g_if_lt (off := 15) (tgt := 16) (by decide +kernel) (by decide) ⟨by omega, by omega⟩ (fun h1 => ?_) (fun h1 => ?_)
  · refine g_iconst (a := 0) (by decide +kernel) ?_
    refine g_retI (by decide +kernel) rfl (Or.inr ⟨rfl, by omega⟩) ⟨by decide, by decide⟩ ?_
    exact ⟨by split <;> omega, rfl⟩
  · refine g_iload_n (i := 1) (by decide +kernel) rfl ?_
    refine g_aload_n (i := 0) (by decide +kernel) rfl ?_
    refine g_geti f_Sh_39 (by decide +kernel) (by omega) hS.a0 rfl ?_
    refine g_icmp_ge (off := 7) (tgt := 16) (by decide +kernel) (by decide) ⟨by omega, by omega⟩ ⟨by omega, by omega⟩ (fun h9 => ?_) (fun h9 => ?_)
    · refine g_iconst (a := 0) (by decide +kernel) ?_
      refine g_retI (by decide +kernel) rfl (Or.inr ⟨rfl, by omega⟩) ⟨by decide, by decide⟩ ?_
      exact ⟨by split <;> omega, rfl⟩
    · refine g_iconst (a := 1) (by decide +kernel) ?_
      refine g_goto (off := 4) (tgt := 17) (by decide +kernel) (by decide) ?_
      refine g_retI (by decide +kernel) rfl (Or.inr ⟨rfl, by omega⟩) ⟨by decide, by decide⟩ ?_
      exact ⟨by split <;> omega, rfl⟩
theorem c_Sh_markOf {G : zG} {n : Nat} {σ : zSt} {b : Nat} {k w : Nat} (hn : 189 ≤ n) (hS : zSw SH b) (hk : k < 12) (hw : w < 9) : Gm G y_Sh_markOf m_Sh_markOf 0 0 0 [vr G b, vi k, vi w] n SH σ (zI n SH (fun a σ' => a = σ (b + 7) (9 * k + w) ∧ σ' = σ)) := by
  refine g_enter (L := [(0, _), (1, _), (2, _)]) (by decide) rfl rfl rfl (Nat.le_of_ble_eq_true rfl) (fun X => ?_)
  have hb := hS.1
  refine g_aload_n (i := 0) (by decide +kernel) rfl ?_
  refine g_getr f_Sh_30 (by decide +kernel) (by omega) hS.a0 rfl ?_
  refine g_iload_n (i := 1) (by decide +kernel) rfl ?_
  refine g_bipush (a := 9) (by decide +kernel) (by decide) ?_
  refine g_imul (by decide +kernel) ?_
  refine g_iload_n (i := 2) (by decide +kernel) rfl ?_
  refine g_iadd (by decide +kernel) ?_
  refine g_iald (j := 9 * k + w) (by decide +kernel) (by omega) hS.a7 (by omega) (by omega) (by decide) ?_
  refine g_retI (by decide +kernel) rfl (Or.inl rfl) ⟨by decide, by decide⟩ ?_
  exact ⟨rfl, rfl⟩
theorem w_Sh_howManyIn {G : zG} {X : zX} {n : Nat} {σ : zSt} {b : Nat} {k : Int} (hn : 189 ≤ n) (hS : zSw SH b) (hg : zGood σ b) (hk : zr k) : ∀ (m : Nat) (i : Nat) (x2 x3 : Int), x3 = (i : Int) → x2 = (zcnt (fun j => decide (σ (b + 2) j = k)) i : Int) → i ≤ (σ b 0).toNat → (σ b 0).toNat < i + m → Go G X m_Sh_howManyIn (0, 0, 0, 0, 0) n SH σ 4 [(0, vr G b), (1, vi k), (2, vi x2), (3, vi x3)] [] (zI n SH (fun a σ' => a = (zcnt (fun j => decide (σ (b + 2) j = k)) (σ b 0).toNat : Int) ∧ σ' = σ)) := by
  intro m
  induction m with
  | zero => intro i x2 x3 e3 e2 hi hm; exact absurd hm (by omega)
  | succ m ih =>
    intro i x2 x3 e3 e2 hi hm
    have hb := hS.1
    have hc := hg.1
    have hz := zcnt_le (fun j => decide (σ (b + 2) j = k)) i
    refine g_iload_n (i := 3) (by decide +kernel) rfl ?_
    refine g_aload_n (i := 0) (by decide +kernel) rfl ?_
    refine g_geti f_Sh_39 (by decide +kernel) (by omega) hS.a0 rfl ?_
    refine g_icmp_ge (off := 22) (tgt := 31) (by decide +kernel) (by decide) ⟨by omega, by omega⟩ ⟨by omega, by omega⟩ (fun h9 => ?_) (fun h9 => ?_)
    · refine g_iload_n (i := 2) (by decide +kernel) rfl ?_
      refine g_retI (by decide +kernel) rfl (Or.inl rfl) ⟨by decide, by decide⟩ ?_
      exact ⟨by rw [e2, show i = (σ b 0).toNat by omega], rfl⟩
    · have hk2 := hg.2.1 i (by omega)
      refine g_aload_n (i := 0) (by decide +kernel) rfl ?_
      refine g_getr f_Sh_15 (by decide +kernel) (by omega) hS.a0 rfl ?_
      refine g_iload_n (i := 3) (by decide +kernel) rfl ?_
      refine g_iald (j := i) (by decide +kernel) (by omega) hS.a2 e3 (by omega) (by decide) ?_
      refine g_iload_n (i := 1) (by decide +kernel) rfl ?_
      refine g_icmp_ne (off := 6) (tgt := 25) (by decide +kernel) (by decide) ⟨by omega, by omega⟩ ⟨by omega, by omega⟩ (fun h19 => ?_) (fun h19 => ?_)
      · refine g_iinc (i := 3) (b := 1) (L' := [(0, _), (1, _), (2, _), (3, _)]) (by decide +kernel) rfl rfl rfl ?_
        refine g_goto (off := -24) (tgt := 4) (by decide +kernel) (by decide) ?_
        exact ih (i + 1) _ _ (by omega) (by first | (rw [zcnt_t (by simp; omega)]; push_cast; omega) | (rw [zcnt_f (by simp; omega)]; omega)) (by omega) (by omega)
      · refine g_iinc (i := 2) (b := 1) (L' := [(0, _), (1, _), (2, _), (3, _)]) (by decide +kernel) rfl rfl rfl ?_
        refine g_iinc (i := 3) (b := 1) (L' := [(0, _), (1, _), (2, _), (3, _)]) (by decide +kernel) rfl rfl rfl ?_
        refine g_goto (off := -24) (tgt := 4) (by decide +kernel) (by decide) ?_
        exact ih (i + 1) _ _ (by omega) (by first | (rw [zcnt_t (by simp; omega)]; push_cast; omega) | (rw [zcnt_f (by simp; omega)]; omega)) (by omega) (by omega)
theorem c_Sh_howManyIn {G : zG} {n : Nat} {σ : zSt} {b : Nat} {k : Int} (hn : 189 ≤ n) (hS : zSw SH b) (hg : zGood σ b) (hk : zr k) : Gm G y_Sh_howManyIn m_Sh_howManyIn 0 0 0 [vr G b, vi k] n SH σ (zI n SH (fun a σ' => a = (zcnt (fun j => decide (σ (b + 2) j = k)) (σ b 0).toNat : Int) ∧ σ' = σ)) := by
  refine g_enter (L := [(0, _), (1, _)]) (by decide) rfl rfl rfl (Nat.le_of_ble_eq_true rfl) (fun X => ?_)
  refine g_iconst (a := 0) (by decide +kernel) ?_
  refine g_istore_n (i := 2) (L' := [(0, _), (1, _), (2, _)]) (by decide +kernel) rfl rfl ?_
  refine g_iconst (a := 0) (by decide +kernel) ?_
  refine g_istore_n (i := 3) (L' := [(0, _), (1, _), (2, _), (3, _)]) (by decide +kernel) rfl rfl ?_
  exact w_Sh_howManyIn hn hS hg hk ((σ b 0).toNat + 1) 0 _ _ rfl rfl (by omega) (by omega)
theorem w_Sh_childAt {G : zG} {X : zX} {n : Nat} {σ : zSt} {b : Nat} {k p : Int} (hn : 189 ≤ n) (hS : zSw SH b) (hg : zGood σ b) (hk : zr k) (hp : zr p) : ∀ (m : Nat) (i : Nat) (x3 : Int), x3 = (i : Int) → (∀ j, j < i → (fun j => decide (σ (b + 2) j = k ∧ σ (b + 3) j = p)) j = false) → i ≤ (σ b 0).toNat → (σ b 0).toNat < i + m → Go G X m_Sh_childAt (0, 0, 0, 0, 0) n SH σ 2 [(0, vr G b), (1, vi k), (2, vi p), (3, vi x3)] [] (zI n SH (fun a σ' => a = zfst (fun j => decide (σ (b + 2) j = k ∧ σ (b + 3) j = p)) (σ b 0).toNat ∧ σ' = σ)) := by
  intro m
  induction m with
  | zero => intro i x3 e3 e2 hi hm; exact absurd hm (by omega)
  | succ m ih =>
    intro i x3 e3 e2 hi hm
    have hb := hS.1
    have hc := hg.1
    refine g_iload_n (i := 3) (by decide +kernel) rfl ?_
    refine g_aload_n (i := 0) (by decide +kernel) rfl ?_
    refine g_geti f_Sh_39 (by decide +kernel) (by omega) hS.a0 rfl ?_
    refine g_icmp_ge (off := 31) (tgt := 38) (by decide +kernel) (by decide) ⟨by omega, by omega⟩ ⟨by omega, by omega⟩ (fun h7 => ?_) (fun h7 => ?_)
    · refine g_iconst (a := -1) (by decide +kernel) ?_
      refine g_retI (by decide +kernel) rfl (Or.inl rfl) ⟨by decide, by decide⟩ ?_
      exact ⟨by rw [zfst_none (fun j hj => e2 j (by omega))], rfl⟩
    · have hk2 := hg.2.1 i (by omega)
      refine g_aload_n (i := 0) (by decide +kernel) rfl ?_
      refine g_getr f_Sh_15 (by decide +kernel) (by omega) hS.a0 rfl ?_
      refine g_iload_n (i := 3) (by decide +kernel) rfl ?_
      refine g_iald (j := i) (by decide +kernel) (by omega) hS.a2 e3 (by omega) (by decide) ?_
      refine g_iload_n (i := 1) (by decide +kernel) rfl ?_
      refine g_icmp_ne (off := 15) (tgt := 32) (by decide +kernel) (by decide) ⟨by omega, by omega⟩ ⟨by omega, by omega⟩ (fun h17 => ?_) (fun h17 => ?_)
      · refine g_iinc (i := 3) (b := 1) (L' := [(0, _), (1, _), (2, _), (3, _)]) (by decide +kernel) rfl rfl rfl ?_
        refine g_goto (off := -33) (tgt := 2) (by decide +kernel) (by decide) ?_
        exact ih (i + 1) _ (by omega) (fun j hj => by
          rcases Nat.lt_or_ge j i with q | q
          · exact e2 j q
          · rw [show j = i by omega]; simp; omega) (by omega) (by omega)
      · refine g_aload_n (i := 0) (by decide +kernel) rfl ?_
        refine g_getr f_Sh_18 (by decide +kernel) (by omega) hS.a0 rfl ?_
        refine g_iload_n (i := 3) (by decide +kernel) rfl ?_
        refine g_iald (j := i) (by decide +kernel) (by omega) hS.a3 e3 (by omega) (by decide) ?_
        refine g_iload_n (i := 2) (by decide +kernel) rfl ?_
        refine g_icmp_ne (off := 5) (tgt := 32) (by decide +kernel) (by decide) ⟨by omega, by omega⟩ ⟨by omega, by omega⟩ (fun h27 => ?_) (fun h27 => ?_)
        · refine g_iinc (i := 3) (b := 1) (L' := [(0, _), (1, _), (2, _), (3, _)]) (by decide +kernel) rfl rfl rfl ?_
          refine g_goto (off := -33) (tgt := 2) (by decide +kernel) (by decide) ?_
          exact ih (i + 1) _ (by omega) (fun j hj => by
            rcases Nat.lt_or_ge j i with q | q
            · exact e2 j q
            · rw [show j = i by omega]; simp; omega) (by omega) (by omega)
        · refine g_iload_n (i := 3) (by decide +kernel) rfl ?_
          refine g_retI (by decide +kernel) rfl (Or.inl rfl) ⟨by decide, by decide⟩ ?_
          exact ⟨by rw [zfst_at e2 (by simp; omega) (show i < (σ b 0).toNat by omega)]; omega, rfl⟩
theorem c_Sh_childAt {G : zG} {n : Nat} {σ : zSt} {b : Nat} {k p : Int} (hn : 189 ≤ n) (hS : zSw SH b) (hg : zGood σ b) (hk : zr k) (hp : zr p) : Gm G y_Sh_childAt m_Sh_childAt 0 0 0 [vr G b, vi k, vi p] n SH σ (zI n SH (fun a σ' => a = zfst (fun j => decide (σ (b + 2) j = k ∧ σ (b + 3) j = p)) (σ b 0).toNat ∧ σ' = σ)) := by
  refine g_enter (L := [(0, _), (1, _), (2, _)]) (by decide) rfl rfl rfl (Nat.le_of_ble_eq_true rfl) (fun X => ?_)
  refine g_iconst (a := 0) (by decide +kernel) ?_
  refine g_istore_n (i := 3) (L' := [(0, _), (1, _), (2, _), (3, _)]) (by decide +kernel) rfl rfl ?_
  exact w_Sh_childAt hn hS hg hk hp ((σ b 0).toNat + 1) 0 _ rfl (fun j hj => by omega) (by omega) (by omega)
end
section
theorem zs_app (σ : zSt) (k j : Nat) (v : Int) (a : Nat) : zs σ k j v a = if a = k then zu (σ k) j v else σ a := by
  by_cases h : a = k
  · subst h; rw [if_pos rfl, zs_row]
  · rw [if_neg h, zs_other h]
theorem zcp_app (σ : zSt) (s sp d dp m a : Nat) : zcp σ s sp d dp m a = if a = d then (fun j => if dp ≤ j ∧ j < dp + m then σ s (sp + (j - dp)) else σ d j) else σ a := by
  by_cases h : a = d
  · subst h; rw [if_pos rfl]; funext j; unfold zcp; simp
  · rw [if_neg h, zcp_other h]
/-- a whole row anew -/
def zrow (σ : zSt) (a : Nat) (f : Nat → Int) : zSt := fun q => if q = a then f else σ q
theorem zrow_eq (σ : zSt) (a : Nat) (f : Nat → Int) : zrow σ a f a = f := if_pos rfl
theorem zrow_ne {σ : zSt} {a q : Nat} {f : Nat → Int} (h : q ≠ a) : zrow σ a f q = σ q := if_neg h
theorem zrow_id (σ : zSt) (a : Nat) : zrow σ a (σ a) = σ := by
  funext q
  by_cases h : q = a
  · subst h; exact zrow_eq _ _ _
  · exact zrow_ne h
theorem zs_zrow (σ : zSt) (a j : Nat) (f : Nat → Int) (v : Int) : zs (zrow σ a f) a j v = zrow σ a (zu f j v) := by
  funext q
  by_cases h : q = a
  · subst h; rw [zs_row, zrow_eq, zrow_eq]
  · rw [zs_other h, zrow_ne h, zrow_ne h]
/-- how many lie around: the way out from x -/
def zdep (ar : Nat → Int) : Nat → Int → Nat
  | 0, _ => 0
  | f + 1, x => if x = -1 then 0 else zdep ar f (ar x.toNat) + 1
def zany (p : Nat → Bool) : Nat → Bool
  | 0 => false
  | n + 1 => zany p n || p n
theorem zany_f {p : Nat → Bool} : ∀ {n : Nat}, (∀ k, k < n → p k = false) → zany p n = false
  | 0, _ => rfl
  | n + 1, h => by unfold zany; rw [zany_f (fun k hk => h k (by omega)), h n (by omega)]; rfl
theorem zany_t {p : Nat → Bool} {i : Nat} (hp : p i = true) : ∀ {n : Nat}, i < n → zany p n = true
  | 0, h => by omega
  | n + 1, h => by
    unfold zany
    rcases Nat.lt_or_ge i n with q | q
    · rw [zany_t hp q]; rfl
    · rw [show n = i by omega, hp]; simp
theorem zany_iff {p : Nat → Bool} : ∀ {n : Nat}, zany p n = true ↔ ∃ i, i < n ∧ p i = true
  | 0 => ⟨fun h => absurd h (by simp [zany]), fun h => by obtain ⟨i, h1, h2⟩ := h; omega⟩
  | n + 1 => by
    unfold zany
    rw [Bool.or_eq_true, zany_iff]
    constructor
    · rintro (⟨i, h1, h2⟩ | h)
      · exact ⟨i, by omega, h2⟩
      · exact ⟨n, by omega, h⟩
    · rintro ⟨i, h1, h2⟩
      rcases Nat.lt_or_ge i n with q | q
      · exact Or.inl ⟨i, q, h2⟩
      · exact Or.inr (by rw [show n = i by omega]; exact h2)
/-- by another -/
def zby (h : Int) : Bool := decide (h = 1 ∨ h = 2)
/-- whether the way by 'other' leads from x to q, in so many steps -/
def zlead (how other : Nat → Int) (q : Int) : Nat → Int → Bool
  | 0, _ => false
  | f + 1, x => if x = q then true else if zby (how x.toNat) = true then zlead how other q f (other x.toNat) else false
theorem zlead_s (how other : Nat → Int) (q : Int) (f : Nat) (x : Int) : zlead how other q (f + 1) x = if x = q then true else if zby (how x.toNat) = true then zlead how other q f (other x.toNat) else false := rfl
theorem w_Sh_howManyAroundNew {G : zG} {X : zX} {n : Nat} {σ : zSt} {b : Nat} {x : Int} (hn : 189 ≤ n) (hS : zSw SH b) (hg : zGood σ b) : ∀ (m : Nat) (i : Nat) (x2 x3 : Int), x2 = (i : Int) → (-1 ≤ x3 ∧ x3 ≤ 11) → zdep (σ (b + 2)) 12 x = i + zdep (σ (b + 2)) (12 - i) x3 → i ≤ 12 → 12 < i + m → Go G X m_Sh_howManyAroundNew (0, 0, 0, 0, 0) n SH σ 4 [(0, vr G b), (1, vi x), (2, vi x2), (3, vi x3)] [] (zI n SH (fun a σ' => a = (zdep (σ (b + 2)) 12 x : Int) ∧ σ' = σ)) := by
  intro m
  induction m with
  | zero => intro i x2 x3 e2 hx e4 hi hm; exact absurd hm (by omega)
  | succ m ih =>
    intro i x2 x3 e2 hx e4 hi hm
    have hb := hS.1
    have hc := hg.1
    refine g_iload_n (i := 3) (by decide +kernel) rfl ?_
    refine g_iconst (a := -1) (by decide +kernel) ?_
    refine g_icmp_eq (off := 22) (tgt := 28) (by decide +kernel) (by decide) ⟨by omega, by omega⟩ ⟨by omega, by omega⟩ (fun h6 => ?_) (fun h6 => ?_)
    · refine g_iload_n (i := 2) (by decide +kernel) rfl ?_
      refine g_retI (by decide +kernel) rfl (Or.inl rfl) ⟨by decide, by decide⟩ ?_
      first
        | exact ⟨by rw [e4, show x3 = -1 by omega]; cases 12 - i <;> simp [zdep] <;> omega, rfl⟩
        | exact ⟨by rw [e4, show 12 - i = 0 by omega]; simp [zdep]; omega, rfl⟩
    · refine g_iload_n (i := 2) (by decide +kernel) rfl ?_
      refine g_bipush (a := 12) (by decide +kernel) (by decide) ?_
      refine g_icmp_ge (off := 16) (tgt := 28) (by decide +kernel) (by decide) ⟨by omega, by omega⟩ ⟨by omega, by omega⟩ (fun h12 => ?_) (fun h12 => ?_)
      · refine g_iload_n (i := 2) (by decide +kernel) rfl ?_
        refine g_retI (by decide +kernel) rfl (Or.inl rfl) ⟨by decide, by decide⟩ ?_
        first
          | exact ⟨by rw [e4, show x3 = -1 by omega]; cases 12 - i <;> simp [zdep] <;> omega, rfl⟩
          | exact ⟨by rw [e4, show 12 - i = 0 by omega]; simp [zdep]; omega, rfl⟩
      · obtain ⟨j, rfl⟩ := Int.eq_ofNat_of_zero_le (show 0 ≤ x3 by omega)
        have hk2 := hg.2.1 j (by omega)
        refine g_iinc (i := 2) (b := 1) (L' := [(0, _), (1, _), (2, _), (3, _)]) (by decide +kernel) rfl rfl rfl ?_
        refine g_aload_n (i := 0) (by decide +kernel) rfl ?_
        refine g_getr f_Sh_15 (by decide +kernel) (by omega) hS.a0 rfl ?_
        refine g_iload_n (i := 3) (by decide +kernel) rfl ?_
        refine g_iald (by decide +kernel) (by omega) hS.a2 rfl (by omega) (by decide) ?_
        refine g_istore_n (i := 3) (L' := [(0, _), (1, _), (2, _), (3, _)]) (by decide +kernel) rfl rfl ?_
        refine g_goto (off := -21) (tgt := 4) (by decide +kernel) (by decide) ?_
        refine ih (i + 1) _ _ (by omega) (by omega) ?_ (by omega) (by omega)
        rw [e4, show 12 - i = (12 - (i + 1)) + 1 by omega]
        conv => lhs; unfold zdep
        rw [if_neg (by omega)]
        show _ = i + 1 + zdep (σ (b + 2)) (12 - (i + 1)) (σ (b + 2) j)
        rw [Int.toNat_natCast]
        omega
theorem c_Sh_howManyAroundNew {G : zG} {n : Nat} {σ : zSt} {b : Nat} {x : Int} (hn : 189 ≤ n) (hS : zSw SH b) (hg : zGood σ b) (hx : -1 ≤ x ∧ x ≤ 11) : Gm G y_Sh_howManyAroundNew m_Sh_howManyAroundNew 0 0 0 [vr G b, vi x] n SH σ (zI n SH (fun a σ' => a = (zdep (σ (b + 2)) 12 x : Int) ∧ σ' = σ)) := by
  refine g_enter (L := [(0, _), (1, _)]) (by decide) rfl rfl rfl (Nat.le_of_ble_eq_true rfl) (fun X => ?_)
  refine g_iconst (a := 0) (by decide +kernel) ?_
  refine g_istore_n (i := 2) (L' := [(0, _), (1, _), (2, _)]) (by decide +kernel) rfl rfl ?_
  refine g_iload_n (i := 1) (by decide +kernel) rfl ?_
  refine g_istore_n (i := 3) (L' := [(0, _), (1, _), (2, _), (3, _)]) (by decide +kernel) rfl rfl ?_
  exact w_Sh_howManyAroundNew hn hS hg 13 0 _ _ rfl hx (by simp) (by omega) (by omega)
theorem c_Sh_isInPar {G : zG} {n : Nat} {σ : zSt} {b : Nat} {k : Nat} (hn : 189 ≤ n) (hS : zSw SH b) (hg : zGood σ b) (hk : k < 12) : Gm G y_Sh_isInPar m_Sh_isInPar 0 0 0 [vr G b, vi k] n SH σ (zI n SH (fun a σ' => a = (if σ (b + 2) k ≠ -1 ∧ σ (b + 1) (σ (b + 2) k).toNat = 1 then 1 else 0) ∧ σ' = σ)) := by
  refine g_enter (L := [(0, _), (1, _)]) (by decide) rfl rfl rfl (Nat.le_of_ble_eq_true rfl) (fun X => ?_)
  have hb := hS.1
  have hc := hg.1
  have hk2 := hg.2.1 k hk
  refine g_aload_n (i := 0) (by decide +kernel) rfl ?_
  refine g_getr f_Sh_15 (by decide +kernel) (by omega) hS.a0 rfl ?_
  refine g_iload_n (i := 1) (by decide +kernel) rfl ?_
  refine g_iald (by decide +kernel) (by omega) hS.a2 rfl (by omega) (by decide) ?_
  refine g_iconst (a := -1) (by decide +kernel) ?_
  refine g_icmp_eq (off := 22) (tgt := 29) (by decide +kernel) (by decide) ⟨by omega, by omega⟩ ⟨by omega, by omega⟩ (fun h7 => ?_) (fun h7 => ?_)
  · refine g_iconst (a := 0) (by decide +kernel) ?_
    refine g_retI (by decide +kernel) rfl (Or.inr ⟨rfl, by omega⟩) ⟨by decide, by decide⟩ ?_
    exact ⟨by split <;> omega, rfl⟩
  · have hk3 := hg.2.1 (σ (b + 2) k).toNat (by omega)
    refine g_aload_n (i := 0) (by decide +kernel) rfl ?_
    refine g_getr f_Sh_9 (by decide +kernel) (by omega) hS.a0 rfl ?_
    refine g_aload_n (i := 0) (by decide +kernel) rfl ?_
    refine g_getr f_Sh_15 (by decide +kernel) (by omega) hS.a0 rfl ?_
    refine g_iload_n (i := 1) (by decide +kernel) rfl ?_
    refine g_iald (by decide +kernel) (by omega) hS.a2 rfl (by omega) (by decide) ?_
    refine g_iald (j := (σ (b + 2) k).toNat) (by decide +kernel) (by omega) hS.a1 (by omega) (by omega) (by decide) ?_
    refine g_iconst (a := 1) (by decide +kernel) ?_
    refine g_icmp_ne (off := 7) (tgt := 29) (by decide +kernel) (by decide) ⟨by omega, by omega⟩ ⟨by omega, by omega⟩ (fun h22 => ?_) (fun h22 => ?_)
    · refine g_iconst (a := 0) (by decide +kernel) ?_
      refine g_retI (by decide +kernel) rfl (Or.inr ⟨rfl, by omega⟩) ⟨by decide, by decide⟩ ?_
      exact ⟨by split <;> omega, rfl⟩
    · refine g_iconst (a := 1) (by decide +kernel) ?_
      refine g_goto (off := 4) (tgt := 30) (by decide +kernel) (by decide) ?_
      refine g_retI (by decide +kernel) rfl (Or.inr ⟨rfl, by omega⟩) ⟨by decide, by decide⟩ ?_
      exact ⟨by split <;> omega, rfl⟩
theorem c_Sh_startsByAnother {G : zG} {n : Nat} {σ : zSt} {b : Nat} {k : Nat} (hn : 189 ≤ n) (hS : zSw SH b) (hg : zGood σ b) (hk : k < 12) : Gm G y_Sh_startsByAnother m_Sh_startsByAnother 0 0 0 [vr G b, vi k] n SH σ (zI n SH (fun a σ' => a = (if zby (σ (b + 4) k) = true then 1 else 0) ∧ σ' = σ)) := by
  refine g_enter (L := [(0, _), (1, _)]) (by decide) rfl rfl rfl (Nat.le_of_ble_eq_true rfl) (fun X => ?_)
  have hb := hS.1
  have hc := hg.1
  have hk2 := hg.2.1 k hk
  refine g_aload_n (i := 0) (by decide +kernel) rfl ?_
  refine g_getr f_Sh_21 (by decide +kernel) (by omega) hS.a0 rfl ?_
  refine g_iload_n (i := 1) (by decide +kernel) rfl ?_
  refine g_iald (by decide +kernel) (by omega) hS.a4 rfl (by omega) (by decide) ?_
  refine g_iconst (a := 1) (by decide +kernel) ?_
  refine g_icmp_eq (off := 13) (tgt := 20) (by decide +kernel) (by decide) ⟨by omega, by omega⟩ ⟨by omega, by omega⟩ (fun h7 => ?_) (fun h7 => ?_)
  · refine g_iconst (a := 1) (by decide +kernel) ?_
    refine g_goto (off := 4) (tgt := 25) (by decide +kernel) (by decide) ?_
    refine g_retI (by decide +kernel) rfl (Or.inr ⟨rfl, by omega⟩) ⟨by decide, by decide⟩ ?_
    exact ⟨by unfold zby; split <;> simp_all <;> omega, rfl⟩
  · refine g_aload_n (i := 0) (by decide +kernel) rfl ?_
    refine g_getr f_Sh_21 (by decide +kernel) (by omega) hS.a0 rfl ?_
    refine g_iload_n (i := 1) (by decide +kernel) rfl ?_
    refine g_iald (by decide +kernel) (by omega) hS.a4 rfl (by omega) (by decide) ?_
    refine g_iconst (a := 2) (by decide +kernel) ?_
    refine g_icmp_ne (off := 7) (tgt := 24) (by decide +kernel) (by decide) ⟨by omega, by omega⟩ ⟨by omega, by omega⟩ (fun h17 => ?_) (fun h17 => ?_)
    · refine g_iconst (a := 0) (by decide +kernel) ?_
      refine g_retI (by decide +kernel) rfl (Or.inr ⟨rfl, by omega⟩) ⟨by decide, by decide⟩ ?_
      exact ⟨by unfold zby; split <;> simp_all <;> omega, rfl⟩
    · refine g_iconst (a := 1) (by decide +kernel) ?_
      refine g_goto (off := 4) (tgt := 25) (by decide +kernel) (by decide) ?_
      refine g_retI (by decide +kernel) rfl (Or.inr ⟨rfl, by omega⟩) ⟨by decide, by decide⟩ ?_
      exact ⟨by unfold zby; split <;> simp_all <;> omega, rfl⟩
theorem w_Sh_startsAnother {G : zG} {X : zX} {n : Nat} {σ : zSt} {b : Nat} {k : Int} (hn : 189 ≤ n) (hS : zSw SH b) (hg : zGood σ b) (hk : zr k) : ∀ (m : Nat) (i : Nat) (x2 : Int), x2 = (i : Int) → (∀ j, j < i → (fun j => zby (σ (b + 4) j) && decide (σ (b + 5) j = k)) j = false) → i ≤ (σ b 0).toNat → (σ b 0).toNat < i + m → Go G X m_Sh_startsAnother (1, 0, 0, 0, 0) n SH σ 2 [(0, vr G b), (1, vi k), (2, vi x2)] [] (zI n SH (fun a σ' => a = (if zany (fun j => zby (σ (b + 4) j) && decide (σ (b + 5) j = k)) (σ b 0).toNat = true then 1 else 0) ∧ σ' = σ)) := by
  intro m
  induction m with
  | zero => intro i x2 e3 e2 hi hm; exact absurd hm (by omega)
  | succ m ih =>
    intro i x2 e3 e2 hi hm
    have hb := hS.1
    have hc := hg.1
    refine g_iload_n (i := 2) (by decide +kernel) rfl ?_
    refine g_aload_n (i := 0) (by decide +kernel) rfl ?_
    refine g_geti f_Sh_39 (by decide +kernel) (by omega) hS.a0 rfl ?_
    refine g_icmp_ge (off := 29) (tgt := 36) (by decide +kernel) (by decide) ⟨by omega, by omega⟩ ⟨by omega, by omega⟩ (fun h7 => ?_) (fun h7 => ?_)
    · refine g_iconst (a := 0) (by decide +kernel) ?_
      refine g_retI (by decide +kernel) rfl (Or.inr ⟨rfl, by omega⟩) ⟨by decide, by decide⟩ ?_
      exact ⟨by rw [zany_f (fun j hj => e2 j (by omega))]; rfl, rfl⟩
    · have hk2 := hg.2.1 i (by omega)
      subst e3
      refine g_aload_n (i := 0) (by decide +kernel) rfl ?_
      refine g_iload_n (i := 2) (by decide +kernel) rfl ?_
      refine g_cVI (st := []) (c_Sh_startsByAnother (k := i) hn hS hg (by omega)) k_Sh_startsByAnother l_Sh_52 (by decide +kernel) (by omega) hS.a0 rfl rfl rfl (by decide) (by decide) ⟨by decide, by decide⟩ ?_
      rintro a σ1 ⟨rfl, hσ⟩
      obtain rfl := hσ.symm
      refine g_if_eq (off := 15) (tgt := 30) (by decide +kernel) (by decide) zbr (fun h15 => ?_) (fun h15 => ?_)
      · have h15 := zb0.mp h15
        refine g_iinc (i := 2) (b := 1) (L' := [(0, _), (1, _), (2, _)]) (by decide +kernel) rfl rfl rfl ?_
        refine g_goto (off := -31) (tgt := 2) (by decide +kernel) (by decide) ?_
        exact ih (i + 1) _ (by omega) (fun j hj => by
          rcases Nat.lt_or_ge j i with q | q
          · exact e2 j q
          · rw [show j = i by omega]; simp_all) (by omega) (by omega)
      · have h15 := zb1.mp h15
        refine g_aload_n (i := 0) (by decide +kernel) rfl ?_
        refine g_getr f_Sh_24 (by decide +kernel) (by omega) hS.a0 rfl ?_
        refine g_iload_n (i := 2) (by decide +kernel) rfl ?_
        refine g_iald (j := i) (by decide +kernel) (by omega) hS.a5 rfl (by omega) (by decide) ?_
        refine g_iload_n (i := 1) (by decide +kernel) rfl ?_
        refine g_icmp_ne (off := 5) (tgt := 30) (by decide +kernel) (by decide) ⟨by omega, by omega⟩ ⟨by omega, by omega⟩ (fun h25 => ?_) (fun h25 => ?_)
        · refine g_iinc (i := 2) (b := 1) (L' := [(0, _), (1, _), (2, _)]) (by decide +kernel) rfl rfl rfl ?_
          refine g_goto (off := -31) (tgt := 2) (by decide +kernel) (by decide) ?_
          exact ih (i + 1) _ (by omega) (fun j hj => by
            rcases Nat.lt_or_ge j i with q | q
            · exact e2 j q
            · rw [show j = i by omega]; simp_all) (by omega) (by omega)
        · refine g_iconst (a := 1) (by decide +kernel) ?_
          refine g_retI (by decide +kernel) rfl (Or.inr ⟨rfl, by omega⟩) ⟨by decide, by decide⟩ ?_
          exact ⟨by rw [zany_t (i := i) (by simp_all) (by omega)]; rfl, rfl⟩
theorem c_Sh_startsAnother {G : zG} {n : Nat} {σ : zSt} {b : Nat} {k : Int} (hn : 189 ≤ n) (hS : zSw SH b) (hg : zGood σ b) (hk : zr k) : Gm G y_Sh_startsAnother m_Sh_startsAnother 1 0 0 [vr G b, vi k] n SH σ (zI n SH (fun a σ' => a = (if zany (fun j => zby (σ (b + 4) j) && decide (σ (b + 5) j = k)) (σ b 0).toNat = true then 1 else 0) ∧ σ' = σ)) := by
  refine g_enter (L := [(0, _), (1, _)]) (by decide) rfl rfl rfl (Nat.le_of_ble_eq_true rfl) (fun X => ?_)
  refine g_iconst (a := 0) (by decide +kernel) ?_
  refine g_istore_n (i := 2) (L' := [(0, _), (1, _), (2, _)]) (by decide +kernel) rfl rfl ?_
  exact w_Sh_startsAnother hn hS hg hk ((σ b 0).toNat + 1) 0 _ rfl (fun j hj => by omega) (by omega) (by omega)
theorem w_Sh_startLeadsTo {G : zG} {X : zX} {n : Nat} {σ : zSt} {b : Nat} {x q : Int} (hn : 189 ≤ n) (hS : zSw SH b) (hg : zGood σ b) (hq : zr q) {D : Int → Prop} (hD : ∀ y, D y → 0 ≤ y ∧ y ≤ 11 ∧ (zby (σ (b + 4) y.toNat) = true → D (σ (b + 5) y.toNat))) : ∀ (m : Nat) (i : Nat) (x3 x4 : Int), x4 = (i : Int) → D x3 → zlead (σ (b + 4)) (σ (b + 5)) q 12 x = zlead (σ (b + 4)) (σ (b + 5)) q (12 - i) x3 → i ≤ 12 → 12 < i + m → Go G X m_Sh_startLeadsTo (1, 0, 0, 0, 0) n SH σ 5 [(0, vr G b), (1, vi x), (2, vi q), (3, vi x3), (4, vi x4)] [] (zI n SH (fun a σ' => a = (if zlead (σ (b + 4)) (σ (b + 5)) q 12 x = true then 1 else 0) ∧ σ' = σ)) := by
  intro m
  induction m with
  | zero => intro i x3 x4 e4 hx e5 hi hm; exact absurd hm (by omega)
  | succ m ih =>
    intro i x3 x4 e4 hx e5 hi hm
    have hb := hS.1
    have hc := hg.1
    have hx2 := hD x3 hx
    obtain ⟨j, rfl⟩ := Int.eq_ofNat_of_zero_le (show 0 ≤ x3 by omega)
    have hk2 := hg.2.1 j (by omega)
    rw [Int.toNat_natCast] at hx2
    refine g_iload (i := 4) (by decide +kernel) rfl ?_
    refine g_bipush (a := 12) (by decide +kernel) (by decide) ?_
    refine g_icmp_ge (off := 33) (tgt := 42) (by decide +kernel) (by decide) ⟨by omega, by omega⟩ ⟨by omega, by omega⟩ (fun h9 => ?_) (fun h9 => ?_)
    · refine g_iconst (a := 0) (by decide +kernel) ?_
      refine g_retI (by decide +kernel) rfl (Or.inr ⟨rfl, by omega⟩) ⟨by decide, by decide⟩ ?_
      exact ⟨by rw [e5, show 12 - i = 0 by omega]; rfl, rfl⟩
    · rw [show 12 - i = (12 - (i + 1)) + 1 by omega, zlead_s _ _ _ (12 - (i + 1))] at e5
      rw [Int.toNat_natCast] at e5
      refine g_iload_n (i := 3) (by decide +kernel) rfl ?_
      refine g_iload_n (i := 2) (by decide +kernel) rfl ?_
      refine g_icmp_ne (off := 5) (tgt := 19) (by decide +kernel) (by decide) ⟨by omega, by omega⟩ ⟨by omega, by omega⟩ (fun h14 => ?_) (fun h14 => ?_)
      · rw [if_neg h14] at e5
        refine g_aload_n (i := 0) (by decide +kernel) rfl ?_
        refine g_iload_n (i := 3) (by decide +kernel) rfl ?_
        refine g_cVI (st := []) (c_Sh_startsByAnother (k := j) hn hS hg (by omega)) k_Sh_startsByAnother l_Sh_52 (by decide +kernel) (by omega) hS.a0 rfl rfl rfl (by decide) (by decide) ⟨by decide, by decide⟩ ?_
        rintro a σ1 ⟨rfl, hσ⟩
        obtain rfl := hσ.symm
        refine g_if_ne (off := 5) (tgt := 29) (by decide +kernel) (by decide) zbr (fun h24 => ?_) (fun h24 => ?_)
        · have h24 := zb1.mp h24
          rw [if_pos h24] at e5
          refine g_aload_n (i := 0) (by decide +kernel) rfl ?_
          refine g_getr f_Sh_24 (by decide +kernel) (by omega) hS.a0 rfl ?_
          refine g_iload_n (i := 3) (by decide +kernel) rfl ?_
          refine g_iald (by decide +kernel) (by omega) hS.a5 rfl (by omega) (by decide) ?_
          refine g_istore_n (i := 3) (L' := [(0, _), (1, _), (2, _), (3, _), (4, _)]) (by decide +kernel) rfl rfl ?_
          refine g_iinc (i := 4) (b := 1) (L' := [(0, _), (1, _), (2, _), (3, _), (4, _)]) (by decide +kernel) rfl rfl rfl ?_
          refine g_goto (off := -34) (tgt := 5) (by decide +kernel) (by decide) ?_
          exact ih (i + 1) _ _ (by omega) (hx2.2.2 h24) e5 (by omega) (by omega)
        · have h24 := zb0.mp h24
          rw [if_neg h24] at e5
          refine g_iconst (a := 0) (by decide +kernel) ?_
          refine g_retI (by decide +kernel) rfl (Or.inr ⟨rfl, by omega⟩) ⟨by decide, by decide⟩ ?_
          exact ⟨by rw [e5]; rfl, rfl⟩
      · rw [if_pos h14] at e5
        refine g_iconst (a := 1) (by decide +kernel) ?_
        refine g_retI (by decide +kernel) rfl (Or.inr ⟨rfl, by omega⟩) ⟨by decide, by decide⟩ ?_
        exact ⟨by rw [e5]; rfl, rfl⟩
theorem c_Sh_startLeadsTo {G : zG} {n : Nat} {σ : zSt} {b : Nat} {x q : Int} (hn : 189 ≤ n) (hS : zSw SH b) (hg : zGood σ b) (hq : zr q) {D : Int → Prop} (hD : ∀ y, D y → 0 ≤ y ∧ y ≤ 11 ∧ (zby (σ (b + 4) y.toNat) = true → D (σ (b + 5) y.toNat))) (hx : D x) : Gm G y_Sh_startLeadsTo m_Sh_startLeadsTo 1 0 0 [vr G b, vi x, vi q] n SH σ (zI n SH (fun a σ' => a = (if zlead (σ (b + 4)) (σ (b + 5)) q 12 x = true then 1 else 0) ∧ σ' = σ)) := by
  refine g_enter (L := [(0, _), (1, _), (2, _)]) (by decide) rfl rfl rfl (Nat.le_of_ble_eq_true rfl) (fun X => ?_)
  refine g_iload_n (i := 1) (by decide +kernel) rfl ?_
  refine g_istore_n (i := 3) (L' := [(0, _), (1, _), (2, _), (3, _)]) (by decide +kernel) rfl rfl ?_
  refine g_iconst (a := 0) (by decide +kernel) ?_
  refine g_istore (i := 4) (L' := [(0, _), (1, _), (2, _), (3, _), (4, _)]) (by decide +kernel) rfl rfl ?_
  exact w_Sh_startLeadsTo hn hS hg hq hD 13 0 _ _ rfl hx rfl (by omega) (by omega)
theorem w_Sh_bitsOfLeaves {G : zG} {X : zX} {n : Nat} {σ : zSt} {b : Nat} (hn : 189 ≤ n) (hS : zSw SH b) (hg : zGood σ b) : ∀ (m : Nat) (i : Nat) (x1 x2 : Int), x2 = (i : Int) → x1 = (zbits (fun j => decide (σ (b + 1) j = 0)) i : Int) → i ≤ (σ b 0).toNat → (σ b 0).toNat < i + m → Go G X m_Sh_bitsOfLeaves (0, 0, 0, 0, 0) n SH σ 4 [(0, vr G b), (1, vi x1), (2, vi x2)] [] (zI n SH (fun a σ' => a = (zbits (fun j => decide (σ (b + 1) j = 0)) (σ b 0).toNat : Int) ∧ σ' = σ)) := by
  intro m
  induction m with
  | zero => intro i x1 x2 e3 e2 hi hm; exact absurd hm (by omega)
  | succ m ih =>
    intro i x1 x2 e3 e2 hi hm
    have hb := hS.1
    have hc := hg.1
    subst e3 e2
    have hz := zbits_le (p := (fun j => decide (σ (b + 1) j = 0))) (show i ≤ 12 by omega)
    refine g_iload_n (i := 2) (by decide +kernel) rfl ?_
    refine g_aload_n (i := 0) (by decide +kernel) rfl ?_
    refine g_geti f_Sh_39 (by decide +kernel) (by omega) hS.a0 rfl ?_
    refine g_icmp_ge (off := 24) (tgt := 33) (by decide +kernel) (by decide) ⟨by omega, by omega⟩ ⟨by omega, by omega⟩ (fun h9 => ?_) (fun h9 => ?_)
    · refine g_iload_n (i := 1) (by decide +kernel) rfl ?_
      refine g_retI (by decide +kernel) rfl (Or.inl rfl) ⟨by decide, by decide⟩ ?_
      exact ⟨by rw [show i = (σ b 0).toNat by omega], rfl⟩
    · have hk2 := hg.2.1 i (by omega)
      have hp : 2 ^ i < 4096 := Nat.pow_lt_pow_right (by decide) (show i < 12 by omega)
      refine g_aload_n (i := 0) (by decide +kernel) rfl ?_
      refine g_getr f_Sh_9 (by decide +kernel) (by omega) hS.a0 rfl ?_
      refine g_iload_n (i := 2) (by decide +kernel) rfl ?_
      refine g_iald (j := i) (by decide +kernel) (by omega) hS.a1 rfl (by omega) (by decide) ?_
      refine g_if_ne (off := 9) (tgt := 27) (by decide +kernel) (by decide) ⟨by omega, by omega⟩ (fun h18 => ?_) (fun h18 => ?_)
      · refine g_iinc (i := 2) (b := 1) (L' := [(0, _), (1, _), (2, _)]) (by decide +kernel) rfl rfl rfl ?_
        refine g_goto (off := -26) (tgt := 4) (by decide +kernel) (by decide) ?_
        exact ih (i + 1) _ _ (by omega) (by first | rw [zbits_t (by simpa using h18)] | rw [zbits_f (by simpa using h18)]) (by omega) (by omega)
      · refine g_iload_n (i := 1) (by decide +kernel) rfl ?_
        refine g_iconst (a := 1) (by decide +kernel) ?_
        refine g_iload_n (i := 2) (by decide +kernel) rfl ?_
        refine g_ishl1 (by decide +kernel) (by omega) ?_
        refine g_ior (by decide +kernel) (by omega) (by omega) ?_
        refine g_istore_n (i := 1) (L' := [(0, _), (1, _), (2, _)]) (by decide +kernel) rfl rfl ?_
        refine g_iinc (i := 2) (b := 1) (L' := [(0, _), (1, _), (2, _)]) (by decide +kernel) rfl rfl rfl ?_
        refine g_goto (off := -26) (tgt := 4) (by decide +kernel) (by decide) ?_
        exact ih (i + 1) _ _ (by omega) (by first | rw [zbits_t (by simpa using h18)] | rw [zbits_f (by simpa using h18)]) (by omega) (by omega)
theorem c_Sh_bitsOfLeaves {G : zG} {n : Nat} {σ : zSt} {b : Nat} (hn : 189 ≤ n) (hS : zSw SH b) (hg : zGood σ b) : Gm G y_Sh_bitsOfLeaves m_Sh_bitsOfLeaves 0 0 0 [vr G b] n SH σ (zI n SH (fun a σ' => a = (zbits (fun j => decide (σ (b + 1) j = 0)) (σ b 0).toNat : Int) ∧ σ' = σ)) := by
  refine g_enter (L := [(0, _)]) (by decide) rfl rfl rfl (Nat.le_of_ble_eq_true rfl) (fun X => ?_)
  refine g_iconst (a := 0) (by decide +kernel) ?_
  refine g_istore_n (i := 1) (L' := [(0, _), (1, _)]) (by decide +kernel) rfl rfl ?_
  refine g_iconst (a := 0) (by decide +kernel) ?_
  refine g_istore_n (i := 2) (L' := [(0, _), (1, _), (2, _)]) (by decide +kernel) rfl rfl ?_
  exact w_Sh_bitsOfLeaves hn hS hg ((σ b 0).toNat + 1) 0 _ _ rfl rfl (by omega) (by omega)
theorem w_Sh_hasPress {G : zG} {X : zX} {n : Nat} {σ : zSt} {b : Nat} {k t : Int} (hn : 189 ≤ n) (hS : zSw SH b) (hg : zGood σ b) (hk : zr k) (ht : zr t) : ∀ (m : Nat) (i : Nat) (x3 : Int), x3 = (i : Int) → (∀ j, j < i → (fun j => decide (σ (b + 8) j = k ∧ σ (b + 9) j = t)) j = false) → i ≤ (σ b 8).toNat → (σ b 8).toNat < i + m → Go G X m_Sh_hasPress (0, 0, 0, 0, 0) n SH σ 2 [(0, vr G b), (1, vi k), (2, vi t), (3, vi x3)] [] (zI n SH (fun a σ' => a = (if zany (fun j => decide (σ (b + 8) j = k ∧ σ (b + 9) j = t)) (σ b 8).toNat = true then 1 else 0) ∧ σ' = σ)) := by
  intro m
  induction m with
  | zero => intro i x3 e3 e2 hi hm; exact absurd hm (by omega)
  | succ m ih =>
    intro i x3 e3 e2 hi hm
    have hb := hS.1
    have hc := hg.1
    refine g_iload_n (i := 3) (by decide +kernel) rfl ?_
    refine g_aload_n (i := 0) (by decide +kernel) rfl ?_
    refine g_geti f_Sh_49 (by decide +kernel) (by omega) hS.a0 rfl ?_
    refine g_icmp_ge (off := 31) (tgt := 38) (by decide +kernel) (by decide) ⟨by omega, by omega⟩ ⟨by omega, by omega⟩ (fun h7 => ?_) (fun h7 => ?_)
    · refine g_iconst (a := 0) (by decide +kernel) ?_
      refine g_retI (by decide +kernel) rfl (Or.inr ⟨rfl, by omega⟩) ⟨by decide, by decide⟩ ?_
      exact ⟨by rw [zany_f (fun j hj => e2 j (by omega))]; rfl, rfl⟩
    · have hk2 := hg.2.2.2 i (by omega)
      subst e3
      refine g_aload_n (i := 0) (by decide +kernel) rfl ?_
      refine g_getr f_Sh_33 (by decide +kernel) (by omega) hS.a0 rfl ?_
      refine g_iload_n (i := 3) (by decide +kernel) rfl ?_
      refine g_iald (j := i) (by decide +kernel) (by omega) hS.a8 rfl (by omega) (by decide) ?_
      refine g_iload_n (i := 1) (by decide +kernel) rfl ?_
      refine g_icmp_ne (off := 15) (tgt := 32) (by decide +kernel) (by decide) ⟨by omega, by omega⟩ ⟨by omega, by omega⟩ (fun h17 => ?_) (fun h17 => ?_)
      · refine g_iinc (i := 3) (b := 1) (L' := [(0, _), (1, _), (2, _), (3, _)]) (by decide +kernel) rfl rfl rfl ?_
        refine g_goto (off := -33) (tgt := 2) (by decide +kernel) (by decide) ?_
        exact ih (i + 1) _ (by omega) (fun j hj => by
          rcases Nat.lt_or_ge j i with q | q
          · exact e2 j q
          · rw [show j = i by omega]; simp_all) (by omega) (by omega)
      · refine g_aload_n (i := 0) (by decide +kernel) rfl ?_
        refine g_getr f_Sh_36 (by decide +kernel) (by omega) hS.a0 rfl ?_
        refine g_iload_n (i := 3) (by decide +kernel) rfl ?_
        refine g_iald (j := i) (by decide +kernel) (by omega) hS.a9 rfl (by omega) (by decide) ?_
        refine g_iload_n (i := 2) (by decide +kernel) rfl ?_
        refine g_icmp_ne (off := 5) (tgt := 32) (by decide +kernel) (by decide) ⟨by omega, by omega⟩ ⟨by omega, by omega⟩ (fun h27 => ?_) (fun h27 => ?_)
        · refine g_iinc (i := 3) (b := 1) (L' := [(0, _), (1, _), (2, _), (3, _)]) (by decide +kernel) rfl rfl rfl ?_
          refine g_goto (off := -33) (tgt := 2) (by decide +kernel) (by decide) ?_
          exact ih (i + 1) _ (by omega) (fun j hj => by
            rcases Nat.lt_or_ge j i with q | q
            · exact e2 j q
            · rw [show j = i by omega]; simp_all) (by omega) (by omega)
        · refine g_iconst (a := 1) (by decide +kernel) ?_
          refine g_retI (by decide +kernel) rfl (Or.inr ⟨rfl, by omega⟩) ⟨by decide, by decide⟩ ?_
          exact ⟨by rw [zany_t (i := i) (by simp_all) (by omega)]; rfl, rfl⟩
theorem c_Sh_hasPress {G : zG} {n : Nat} {σ : zSt} {b : Nat} {k t : Int} (hn : 189 ≤ n) (hS : zSw SH b) (hg : zGood σ b) (hk : zr k) (ht : zr t) : Gm G y_Sh_hasPress m_Sh_hasPress 0 0 0 [vr G b, vi k, vi t] n SH σ (zI n SH (fun a σ' => a = (if zany (fun j => decide (σ (b + 8) j = k ∧ σ (b + 9) j = t)) (σ b 8).toNat = true then 1 else 0) ∧ σ' = σ)) := by
  refine g_enter (L := [(0, _), (1, _), (2, _)]) (by decide) rfl rfl rfl (Nat.le_of_ble_eq_true rfl) (fun X => ?_)
  refine g_iconst (a := 0) (by decide +kernel) ?_
  refine g_istore_n (i := 3) (L' := [(0, _), (1, _), (2, _), (3, _)]) (by decide +kernel) rfl rfl ?_
  exact w_Sh_hasPress hn hS hg hk ht ((σ b 8).toNat + 1) 0 _ rfl (fun j hj => by omega) (by omega) (by omega)
theorem c_Sh_empty {G : zG} {n : Nat} {σ : zSt} {b : Nat} (hn : 189 ≤ n) (hS : zSw SH b) : Gm G y_Sh_empty m_Sh_empty 0 0 0 [vr G b] n SH σ (zV n SH (fun σ' => σ' = zs (zs σ b 0 0) b 8 0)) := by
  refine g_enter (L := [(0, _)]) (by decide) rfl rfl rfl (Nat.le_of_ble_eq_true rfl) (fun X => ?_)
  have hb := hS.1
  refine g_aload_n (i := 0) (by decide +kernel) rfl ?_
  refine g_iconst (a := 0) (by decide +kernel) ?_
  refine g_puti f_Sh_39 (by decide +kernel) (by omega) hS.a0 rfl ?_
  refine g_aload_n (i := 0) (by decide +kernel) rfl ?_
  refine g_iconst (a := 0) (by decide +kernel) ?_
  refine g_puti f_Sh_49 (by decide +kernel) (by omega) hS.a0 rfl ?_
  refine g_retV (by decide +kernel) rfl ⟨by decide, by decide⟩ ?_
  exact rfl
theorem c_Sh_putMark {G : zG} {n : Nat} {σ : zSt} {b : Nat} {k w : Nat} {v : Int} (hn : 189 ≤ n) (hS : zSw SH b) (hk : k < 12) (hw : w < 9) : Gm G y_Sh_putMark m_Sh_putMark 0 0 0 [vr G b, vi k, vi w, vi v] n SH σ (zV n SH (fun σ' => σ' = zs σ (b + 7) (9 * k + w) v)) := by
  refine g_enter (L := [(0, _), (1, _), (2, _), (3, _)]) (by decide) rfl rfl rfl (Nat.le_of_ble_eq_true rfl) (fun X => ?_)
  have hb := hS.1
  refine g_aload_n (i := 0) (by decide +kernel) rfl ?_
  refine g_getr f_Sh_30 (by decide +kernel) (by omega) hS.a0 rfl ?_
  refine g_iload_n (i := 1) (by decide +kernel) rfl ?_
  refine g_bipush (a := 9) (by decide +kernel) (by decide) ?_
  refine g_imul (by decide +kernel) ?_
  refine g_iload_n (i := 2) (by decide +kernel) rfl ?_
  refine g_iadd (by decide +kernel) ?_
  refine g_iload_n (i := 3) (by decide +kernel) rfl ?_
  refine g_iast (j := 9 * k + w) (by decide +kernel) (by omega) hS.a7 (by omega) (by omega) (by decide) ?_
  refine g_retV (by decide +kernel) rfl ⟨by decide, by decide⟩ ?_
  exact rfl
theorem c_Sh_putStart {G : zG} {n : Nat} {σ : zSt} {b : Nat} {k : Nat} {x y v : Int} (hn : 189 ≤ n) (hS : zSw SH b) (hk : k < 12) : Gm G y_Sh_putStart m_Sh_putStart 0 0 0 [vr G b, vi k, vi x, vi y, vi v] n SH σ (zV n SH (fun σ' => σ' = zs (zs (zs σ (b + 4) k x) (b + 5) k y) (b + 6) k v)) := by
  refine g_enter (L := [(0, _), (1, _), (2, _), (3, _), (4, _)]) (by decide) rfl rfl rfl (Nat.le_of_ble_eq_true rfl) (fun X => ?_)
  have hb := hS.1
  refine g_aload_n (i := 0) (by decide +kernel) rfl ?_
  refine g_getr f_Sh_21 (by decide +kernel) (by omega) hS.a0 rfl ?_
  refine g_iload_n (i := 1) (by decide +kernel) rfl ?_
  refine g_iload_n (i := 2) (by decide +kernel) rfl ?_
  refine g_iast (by decide +kernel) (by omega) hS.a4 rfl (by omega) (by decide) ?_
  refine g_aload_n (i := 0) (by decide +kernel) rfl ?_
  refine g_getr f_Sh_24 (by decide +kernel) (by omega) hS.a0 rfl ?_
  refine g_iload_n (i := 1) (by decide +kernel) rfl ?_
  refine g_iload_n (i := 3) (by decide +kernel) rfl ?_
  refine g_iast (by decide +kernel) (by omega) hS.a5 rfl (by omega) (by decide) ?_
  refine g_aload_n (i := 0) (by decide +kernel) rfl ?_
  refine g_getr f_Sh_27 (by decide +kernel) (by omega) hS.a0 rfl ?_
  refine g_iload_n (i := 1) (by decide +kernel) rfl ?_
  refine g_iload (i := 4) (by decide +kernel) rfl ?_
  refine g_iast (by decide +kernel) (by omega) hS.a6 rfl (by omega) (by decide) ?_
  refine g_retV (by decide +kernel) rfl ⟨by decide, by decide⟩ ?_
  exact rfl
theorem c_Sh_appendPress {G : zG} {n : Nat} {σ : zSt} {b : Nat} {x y : Int} (hn : 189 ≤ n) (hS : zSw SH b) (hg : zGood σ b) (hp : σ b 8 < 6) : Gm G y_Sh_appendPress m_Sh_appendPress 0 0 0 [vr G b, vi x, vi y] n SH σ (zV n SH (fun σ' => σ' = zs (zs (zs σ (b + 8) (σ b 8).toNat x) (b + 9) (σ b 8).toNat y) b 8 (σ b 8 + 1))) := by
  refine g_enter (L := [(0, _), (1, _), (2, _)]) (by decide) rfl rfl rfl (Nat.le_of_ble_eq_true rfl) (fun X => ?_)
  have hb := hS.1
  have hc := hg.1
  refine g_aload_n (i := 0) (by decide +kernel) rfl ?_
  refine g_getr f_Sh_33 (by decide +kernel) (by omega) hS.a0 rfl ?_
  refine g_aload_n (i := 0) (by decide +kernel) rfl ?_
  refine g_geti f_Sh_49 (by decide +kernel) (by omega) hS.a0 rfl ?_
  refine g_iload_n (i := 1) (by decide +kernel) rfl ?_
  refine g_iast (j := (σ b 8).toNat) (by decide +kernel) (by omega) hS.a8 (by omega) (by omega) (by decide) ?_
  refine g_aload_n (i := 0) (by decide +kernel) rfl ?_
  refine g_getr f_Sh_36 (by decide +kernel) (by omega) hS.a0 rfl ?_
  refine g_aload_n (i := 0) (by decide +kernel) rfl ?_
  refine g_geti f_Sh_49 (by decide +kernel) (by omega) hS.a0 rfl ?_
  refine g_iload_n (i := 2) (by decide +kernel) rfl ?_
  refine g_iast (j := (σ b 8).toNat) (by decide +kernel) (by omega) hS.a9 (by simp [zs_app]; omega) (by omega) (by decide) ?_
  refine g_aload_n (i := 0) (by decide +kernel) rfl ?_
  refine g_dup (by decide +kernel) rfl ?_
  refine g_geti f_Sh_49 (by decide +kernel) (by omega) hS.a0 rfl ?_
  refine g_iconst (a := 1) (by decide +kernel) ?_
  refine g_iadd (by decide +kernel) ?_
  refine g_puti f_Sh_49 (by decide +kernel) (by omega) hS.a0 rfl ?_
  refine g_retV (by decide +kernel) rfl ⟨by decide, by decide⟩ ?_
  simp [zs_app]
end
section
theorem zpop_bits {p : Nat → Bool} {n : Nat} (hn : n ≤ 12) : zpop (zbits p n) = zcnt p n := by
  unfold zpop
  rw [zcnt_congr (q := fun k => decide (k < n) && p k) (fun k _ => zbits_test)]
  have : ∀ m, n ≤ m → zcnt (fun k => decide (k < n) && p k) m = zcnt p n := by
    intro m
    induction m with
    | zero => intro h; rw [show n = 0 by omega]; rfl
    | succ m ih =>
      intro h
      rcases Nat.lt_or_ge m n with q | q
      · rw [show m + 1 = n by omega]
        exact zcnt_congr (fun k hk => by simp [hk])
      · rw [zcnt_f (by simp; omega)]
        exact ih q
  exact this 12 hn
theorem zbits_and {p : Nat → Bool} {n i : Nat} (h : i ≤ n) : zbits p n &&& (2 ^ i - 1) = zbits p i := by
  apply Nat.eq_of_testBit_eq
  intro k
  rw [Nat.testBit_and, zbits_test, zbits_test, Nat.testBit_two_pow_sub_one]
  by_cases hk : k < i
  · simp [hk, show k < n by omega]
  · simp [hk]
theorem zbits_bit {p : Nat → Bool} {n i : Nat} : (zbits p n / 2 ^ i) &&& 1 = if (decide (i < n) && p i) = true then 1 else 0 := by
  rw [← zbits_test (p := p), Nat.and_one_is_mod, Nat.testBit_eq_decide_div_mod_eq]
  have : zbits p n / 2 ^ i % 2 < 2 := Nat.mod_lt _ (by decide)
  simp only [decide_eq_true_eq]
  split <;> omega
/-- whether q is on the way out from k -/
def zwi (ar : Nat → Int) (q : Nat) : Nat → Nat → Bool
  | 0, _ => false
  | f + 1, k => if k = q then true else if ar k = -1 then false else zwi ar q f (ar k).toNat
theorem zwi_s (ar : Nat → Int) (q f k : Nat) : zwi ar q (f + 1) k = if k = q then true else if ar k = -1 then false else zwi ar q f (ar k).toNat := rfl
/-- with what is around of smaller number the way ends by itself -/
theorem zwi_enough {ar : Nat → Int} {q : Nat} {N : Nat} (h : ∀ k, k < N → ar k < k) (h0 : ∀ k, k < N → -1 ≤ ar k) : ∀ (f g k : Nat), k < f → k < g → k < N → zwi ar q f k = zwi ar q g k := by
  intro f
  induction f with
  | zero => intro g k h1; omega
  | succ f ih =>
    intro g k h1 h2 h3
    cases g with
    | zero => omega
    | succ g =>
      rw [zwi_s, zwi_s]
      split
      · rfl
      · split
        · rfl
        · have c := h k h3
          have d := h0 k h3
          exact ih g _ (by omega) (by omega) (by omega)
theorem zwi_small {ar : Nat → Int} {q N : Nat} (h : ∀ k, k < N → ar k < k) (h0 : ∀ k, k < N → -1 ≤ ar k) : ∀ (f k : Nat), k < N → k < q → zwi ar q f k = false := by
  intro f
  induction f with
  | zero => intro k _ _; rfl
  | succ f ih =>
    intro k h1 h2
    rw [zwi_s, if_neg (by omega)]
    split
    · rfl
    · have c := h k h1
      have d := h0 k h1
      exact ih _ (by omega) (by omega)
/-- what is around has a smaller number -/
def zTree (σ : zSt) (b : Nat) : Prop := ∀ k, k < (σ b 0).toNat → σ (b + 2) k < k
/-- the numbers of a Show come to another one -/
def zCopy (σ σ' : zSt) (b f : Nat) : Prop := σ' b 0 = σ f 0 ∧ σ' b 8 = σ f 8 ∧ (∀ r, 1 ≤ r → r ≤ 6 → ∀ k, k < 12 → σ' (b + r) k = σ (f + r) k) ∧ (∀ k, k < 108 → σ' (b + 7) k = σ (f + 7) k) ∧ (∀ i, i < 6 → σ' (b + 8) i = σ (f + 8) i ∧ σ' (b + 9) i = σ (f + 9) i) ∧ ∀ a, (a < b ∨ b + 10 ≤ a) → σ' a = σ a
theorem c_Sh_leaves {G : zG} {n : Nat} {σ : zSt} {b : Nat} (hn : 189 ≤ n) (hS : zSw SH b) (hg : zGood σ b) : Gm G y_Sh_leaves m_Sh_leaves 1 0 0 [vr G b] n SH σ (zI n SH (fun a σ' => a = (zcnt (fun j => decide (σ (b + 1) j = 0)) (σ b 0).toNat : Int) ∧ σ' = σ)) := by
  refine g_enter (L := [(0, _)]) (by decide) rfl rfl rfl (Nat.le_of_ble_eq_true rfl) (fun X => ?_)
  have hb := hS.1
  have hc := hg.1
  refine g_aload_n (i := 0) (by decide +kernel) rfl ?_
  refine g_cVI (st := []) (c_Sh_bitsOfLeaves hn hS hg) k_Sh_bitsOfLeaves l_Sh_56 (by decide +kernel) (by omega) hS.a0 rfl rfl rfl (Nat.le_of_ble_eq_true rfl) (by decide) ⟨by decide, by decide⟩ ?_
  rintro a σ1 ⟨rfl, hσ⟩
  obtain rfl := hσ.symm
  refine g_cSI (st := []) (c_In_bitCount (zbits_le (m := 12) (by omega))) k_In_bitCount l_Sh_60 (by decide +kernel) rfl rfl (Nat.le_of_ble_eq_true rfl) (by decide) ⟨by decide, by decide⟩ ?_
  rintro a σ1 ⟨rfl, hσ⟩
  obtain rfl := hσ.symm
  refine g_retI (by decide +kernel) rfl (Or.inl rfl) ⟨by decide, by decide⟩ ?_
  exact ⟨by rw [zpop_bits (by omega)], rfl⟩
theorem w_Sh_bitsWithin {G : zG} {X : zX} {n : Nat} {σ : zSt} {b : Nat} {k : Nat} (hn : 189 ≤ n) (hS : zSw SH b) (hg : zGood σ b) (ht : zTree σ b) (hk : k < (σ b 0).toNat) : ∀ (m : Nat) (i : Nat) (x2 x3 : Int), x3 = (i : Int) → x2 = (zbits (fun j => zwi (σ (b + 2)) k 12 j) i : Int) → k < i → i ≤ (σ b 0).toNat → (σ b 0).toNat < i + m → Go G X m_Sh_bitsWithin (0, 0, 0, 0, 0) n SH σ 8 [(0, vr G b), (1, vi k), (2, vi x2), (3, vi x3)] [] (zI n SH (fun a σ' => a = (zbits (fun j => zwi (σ (b + 2)) k 12 j) (σ b 0).toNat : Int) ∧ σ' = σ)) := by
  intro m
  induction m with
  | zero => intro i x2 x3 e3 e2 hki hi hm; exact absurd hm (by omega)
  | succ m ih =>
    intro i x2 x3 e3 e2 hki hi hm
    have hb := hS.1
    have hc := hg.1
    subst e3 e2
    have hz := zbits_le (p := (fun j => zwi (σ (b + 2)) k 12 j)) (show i ≤ 12 by omega)
    refine g_iload_n (i := 3) (by decide +kernel) rfl ?_
    refine g_aload_n (i := 0) (by decide +kernel) rfl ?_
    refine g_geti f_Sh_39 (by decide +kernel) (by omega) hS.a0 rfl ?_
    refine g_icmp_ge (off := 39) (tgt := 52) (by decide +kernel) (by decide) ⟨by omega, by omega⟩ ⟨by omega, by omega⟩ (fun h13 => ?_) (fun h13 => ?_)
    · refine g_iload_n (i := 2) (by decide +kernel) rfl ?_
      refine g_retI (by decide +kernel) rfl (Or.inl rfl) ⟨by decide, by decide⟩ ?_
      exact ⟨by rw [show i = (σ b 0).toNat by omega], rfl⟩
    · have hk2 := hg.2.1 i (by omega)
      have hp : 2 ^ i < 4096 := Nat.pow_lt_pow_right (by decide) (show i < 12 by omega)
      have hti := ht i (by omega)
      have ar0 : ∀ q, q < (σ b 0).toNat → -1 ≤ σ (b + 2) q := fun q hq => (hg.2.1 q (by omega)).2.1.1
      refine g_aload_n (i := 0) (by decide +kernel) rfl ?_
      refine g_getr f_Sh_15 (by decide +kernel) (by omega) hS.a0 rfl ?_
      refine g_iload_n (i := 3) (by decide +kernel) rfl ?_
      refine g_iald (j := i) (by decide +kernel) (by omega) hS.a2 rfl (by omega) (by decide) ?_
      refine g_iconst (a := -1) (by decide +kernel) ?_
      refine g_icmp_eq (off := 23) (tgt := 46) (by decide +kernel) (by decide) ⟨by omega, by omega⟩ ⟨by omega, by omega⟩ (fun h23 => ?_) (fun h23 => ?_)
      · have hw : (fun j => zwi (σ (b + 2)) k 12 j) i = false := by show zwi _ _ _ _ = false; rw [zwi_s, if_neg (by omega), if_pos h23]
        refine g_iinc (i := 3) (b := 1) (L' := [(0, _), (1, _), (2, _), (3, _)]) (by decide +kernel) rfl rfl rfl ?_
        refine g_goto (off := -41) (tgt := 8) (by decide +kernel) (by decide) ?_
        exact ih (i + 1) _ _ (by omega) (by first | rw [zbits_t hw] | rw [zbits_f hw]) (by omega) (by omega) (by omega)
      · have hq2 : zbits (fun j => zwi (σ (b + 2)) k 12 j) i / 2 ^ (σ (b + 2) i).toNat < 4096 := Nat.lt_of_le_of_lt (Nat.div_le_self _ _) hz
        have hw : (fun j => zwi (σ (b + 2)) k 12 j) i = zwi (σ (b + 2)) k 12 (σ (b + 2) i).toNat := by
          show zwi _ _ _ _ = _
          rw [zwi_s, if_neg (by omega), if_neg h23]
          exact zwi_enough ht ar0 _ _ _ (by omega) (by omega) (by omega)
        refine g_iload_n (i := 2) (by decide +kernel) rfl ?_
        refine g_aload_n (i := 0) (by decide +kernel) rfl ?_
        refine g_getr f_Sh_15 (by decide +kernel) (by omega) hS.a0 rfl ?_
        refine g_iload_n (i := 3) (by decide +kernel) rfl ?_
        refine g_iald (j := i) (by decide +kernel) (by omega) hS.a2 rfl (by omega) (by decide) ?_
        refine g_eq (st' := [vi (((σ (b + 2) i).toNat : Nat) : Int), vi ((zbits (fun j => zwi (σ (b + 2)) k 12 j) i : Nat) : Int)]) ?_ rfl rfl (by rw [show (((σ (b + 2) i).toNat : Nat) : Int) = σ (b + 2) i by omega])
        refine g_ishr (by decide +kernel) (by omega) (by omega) ?_
        refine g_iconst (a := 1) (by decide +kernel) ?_
        refine g_iand (by decide +kernel) (y := 1) (by omega) (by omega) ?_
        refine g_iconst (a := 1) (by decide +kernel) ?_
        refine g_icmp_ne (off := 9) (tgt := 46) (by decide +kernel) (by decide) ⟨by omega, by rw [zbits_bit]; split <;> decide⟩ ⟨by omega, by omega⟩ (fun h37 => ?_) (fun h37 => ?_)
        · have hw2 : (fun j => zwi (σ (b + 2)) k 12 j) i = false := by
            rw [hw]
            cases hx : zwi (σ (b + 2)) k 12 (σ (b + 2) i).toNat with
            | false => rfl
            | true => exact absurd (by rw [zbits_bit, if_pos (by rw [hx, decide_eq_true (show (σ (b + 2) i).toNat < i by omega)]; rfl)]; rfl) h37
          clear hw
          have hw := hw2
          refine g_iinc (i := 3) (b := 1) (L' := [(0, _), (1, _), (2, _), (3, _)]) (by decide +kernel) rfl rfl rfl ?_
          refine g_goto (off := -41) (tgt := 8) (by decide +kernel) (by decide) ?_
          exact ih (i + 1) _ _ (by omega) (by first | rw [zbits_t hw] | rw [zbits_f hw]) (by omega) (by omega) (by omega)
        · have hw2 : (fun j => zwi (σ (b + 2)) k 12 j) i = true := by
            rw [hw]
            cases hx : zwi (σ (b + 2)) k 12 (σ (b + 2) i).toNat with
            | true => rfl
            | false => rw [zbits_bit] at h37; simp [hx] at h37
          clear hw
          have hw := hw2
          refine g_iload_n (i := 2) (by decide +kernel) rfl ?_
          refine g_iconst (a := 1) (by decide +kernel) ?_
          refine g_iload_n (i := 3) (by decide +kernel) rfl ?_
          refine g_ishl1 (by decide +kernel) (by omega) ?_
          refine g_ior (by decide +kernel) (by omega) (by omega) ?_
          refine g_istore_n (i := 2) (L' := [(0, _), (1, _), (2, _), (3, _)]) (by decide +kernel) rfl rfl ?_
          refine g_iinc (i := 3) (b := 1) (L' := [(0, _), (1, _), (2, _), (3, _)]) (by decide +kernel) rfl rfl rfl ?_
          refine g_goto (off := -41) (tgt := 8) (by decide +kernel) (by decide) ?_
          exact ih (i + 1) _ _ (by omega) (by first | rw [zbits_t hw] | rw [zbits_f hw]) (by omega) (by omega) (by omega)
theorem c_Sh_bitsWithin {G : zG} {n : Nat} {σ : zSt} {b : Nat} {k : Nat} (hn : 189 ≤ n) (hS : zSw SH b) (hg : zGood σ b) (ht : zTree σ b) (hk : k < (σ b 0).toNat) : Gm G y_Sh_bitsWithin m_Sh_bitsWithin 0 0 0 [vr G b, vi k] n SH σ (zI n SH (fun a σ' => a = (zbits (fun j => zwi (σ (b + 2)) k 12 j) (σ b 0).toNat : Int) ∧ σ' = σ)) := by
  refine g_enter (L := [(0, _), (1, _)]) (by decide) rfl rfl rfl (Nat.le_of_ble_eq_true rfl) (fun X => ?_)
  have hb := hS.1
  have hc := hg.1
  refine g_iconst (a := 1) (by decide +kernel) ?_
  refine g_iload_n (i := 1) (by decide +kernel) rfl ?_
  refine g_ishl1 (by decide +kernel) (by omega) ?_
  refine g_istore_n (i := 2) (L' := [(0, _), (1, _), (2, _)]) (by decide +kernel) rfl rfl ?_
  refine g_iload_n (i := 1) (by decide +kernel) rfl ?_
  refine g_iconst (a := 1) (by decide +kernel) ?_
  refine g_iadd (by decide +kernel) ?_
  refine g_istore_n (i := 3) (L' := [(0, _), (1, _), (2, _), (3, _)]) (by decide +kernel) rfl rfl ?_
  refine w_Sh_bitsWithin hn hS hg ht hk ((σ b 0).toNat + 1) (k + 1) _ _ (by omega) ?_ (by omega) (by omega) (by omega)
  have ar0 : ∀ q, q < (σ b 0).toNat → -1 ≤ σ (b + 2) q := fun q hq => (hg.2.1 q (by omega)).2.1.1
  have z0 : zbits (fun j => zwi (σ (b + 2)) k 12 j) k = 0 := by
    rw [zbits_congr (q := fun _ => false) (fun q hq => zwi_small ht ar0 12 q (by omega) hq)]
    clear hk
    induction k with
    | zero => rfl
    | succ k ih => rw [zbits_f rfl]; exact ih
  rw [zbits_t (by show zwi _ _ _ _ = true; rw [zwi_s, if_pos rfl]), z0]
  simp
theorem c_Sh_renumbered {G : zG} {n : Nat} {σ : zSt} {x : Int} {p : Nat → Bool} {N : Nat} (hN : N ≤ 12) (hx : -1 ≤ x ∧ x < N) : Gm G y_Sh_renumbered m_Sh_renumbered 1 0 0 [vi x, vi (zbits p N : Nat)] n SH σ (zI n SH (fun a σ' => a = (if x = -1 then -1 else x - (zcnt p x.toNat : Int)) ∧ σ' = σ)) := by
  refine g_enter (L := [(0, _), (1, _)]) (by decide) rfl rfl rfl (Nat.le_of_ble_eq_true rfl) (fun X => ?_)
  have hz := zbits_le (p := p) (show N ≤ 12 by omega)
  refine g_iload_n (i := 0) (by decide +kernel) rfl ?_
  refine g_iconst (a := -1) (by decide +kernel) ?_
  refine g_icmp_ne (off := 7) (tgt := 9) (by decide +kernel) (by decide) ⟨by omega, by omega⟩ ⟨by omega, by omega⟩ (fun h2 => ?_) (fun h2 => ?_)
  · obtain ⟨j, rfl⟩ := Int.eq_ofNat_of_zero_le (show 0 ≤ x by omega)
    have hp : 2 ^ j < 4096 := Nat.pow_lt_pow_right (by decide) (show j < 12 by omega)
    have hp1 : 0 < 2 ^ j := Nat.two_pow_pos j
    refine g_iload_n (i := 0) (by decide +kernel) rfl ?_
    refine g_iload_n (i := 1) (by decide +kernel) rfl ?_
    refine g_iconst (a := 1) (by decide +kernel) ?_
    refine g_iload_n (i := 0) (by decide +kernel) rfl ?_
    refine g_ishl1 (by decide +kernel) (by omega) ?_
    refine g_iconst (a := 1) (by decide +kernel) ?_
    refine g_isub (by decide +kernel) ?_
    refine g_eq (st' := [vi ((2 ^ j - 1 : Nat) : Int), vi ((zbits p N : Nat) : Int), vi (j : Int)]) ?_ rfl rfl (by rw [show ((2 ^ j - 1 : Nat) : Int) = ((2 ^ j : Nat) : Int) - 1 by omega])
    refine g_iand (by decide +kernel) (by omega) (by omega) ?_
    rw [zbits_and (by omega)]
    refine g_cSI (st := [vi (j : Int)]) (c_In_bitCount (zbits_le (m := 12) (by omega))) k_In_bitCount l_Sh_60 (by decide +kernel) rfl rfl (Nat.le_of_ble_eq_true rfl) (by decide) ⟨by decide, by decide⟩ ?_
    rintro a σ1 ⟨rfl, hσ⟩
    obtain rfl := hσ.symm
    refine g_isub (by decide +kernel) ?_
    refine g_retI (by decide +kernel) rfl (Or.inl rfl) ⟨by decide, by decide⟩ ?_
    first
      | exact ⟨by rw [if_pos (by omega)], rfl⟩
      | exact ⟨by rw [zpop_bits (by omega), if_neg (by omega), Int.toNat_natCast], rfl⟩
  · refine g_iconst (a := -1) (by decide +kernel) ?_
    refine g_goto (off := 15) (tgt := 21) (by decide +kernel) (by decide) ?_
    refine g_retI (by decide +kernel) rfl (Or.inl rfl) ⟨by decide, by decide⟩ ?_
    first
      | exact ⟨by rw [if_pos (by omega)], rfl⟩
      | exact ⟨by rw [zpop_bits (by omega), if_neg (by omega), Int.toNat_natCast], rfl⟩
theorem c_Sh_copyFrom {G : zG} {n : Nat} {σ : zSt} {b f : Nat} (hn : 189 ≤ n) (hS : zSw SH b) (hF : zSw SH f) (hbf : b + 10 ≤ f ∨ f + 10 ≤ b) : Gm G y_Sh_copyFrom m_Sh_copyFrom 1 0 0 [vr G b, vr G f] n SH σ (zV n SH (fun σ' => zCopy σ σ' b f)) := by
  refine g_enter (L := [(0, _), (1, _)]) (by decide) rfl rfl rfl (Nat.le_of_ble_eq_true rfl) (fun X => ?_)
  have hb := hS.1
  have hf := hF.1
  refine g_aload_n (i := 0) (by decide +kernel) rfl ?_
  refine g_aload_n (i := 1) (by decide +kernel) rfl ?_
  refine g_geti f_Sh_39 (by decide +kernel) (by omega) hF.a0 rfl ?_
  refine g_puti f_Sh_39 (by decide +kernel) (by omega) hS.a0 rfl ?_
  generalize hτ1 : zs σ b 0 (σ f 0) = τ1
  have o1 : ∀ a, a ≠ b → τ1 a = σ a := fun a ha => by rw [← hτ1]; exact zs_other ha
  have e1 : τ1 b = zu (σ b) 0 (σ f 0) := by rw [← hτ1]; exact zs_row _ _ _ _
  clear hτ1
  refine g_aload_n (i := 1) (by decide +kernel) rfl ?_
  refine g_getr f_Sh_9 (by decide +kernel) (by omega) hF.a0 rfl ?_
  refine g_iconst (a := 0) (by decide +kernel) ?_
  refine g_aload_n (i := 0) (by decide +kernel) rfl ?_
  refine g_getr f_Sh_9 (by decide +kernel) (by omega) hS.a0 rfl ?_
  refine g_iconst (a := 0) (by decide +kernel) ?_
  refine g_bipush (a := 12) (by decide +kernel) (by decide) ?_
  refine g_copy (sp := 0) (dp := 0) (c := 12) ac_l (by decide +kernel) (by omega) (by omega) hF.a1 hS.a1 rfl rfl rfl (by decide) (by decide) ⟨by decide, by decide⟩ (by decide) (by decide) ?_
  generalize hτ2 : zcp τ1 (f + 1) 0 (b + 1) 0 12 = τ2
  have o2 : ∀ a, a ≠ b + 1 → τ2 a = τ1 a := fun a ha => by rw [← hτ2]; exact zcp_other ha
  have e2 : ∀ j, j < 12 → τ2 (b + 1) j = τ1 (f + 1) j := fun j hj => by rw [← hτ2, zcp_in (by omega) (by omega)]; simp
  clear hτ2
  refine g_aload_n (i := 1) (by decide +kernel) rfl ?_
  refine g_getr f_Sh_15 (by decide +kernel) (by omega) hF.a0 rfl ?_
  refine g_iconst (a := 0) (by decide +kernel) ?_
  refine g_aload_n (i := 0) (by decide +kernel) rfl ?_
  refine g_getr f_Sh_15 (by decide +kernel) (by omega) hS.a0 rfl ?_
  refine g_iconst (a := 0) (by decide +kernel) ?_
  refine g_bipush (a := 12) (by decide +kernel) (by decide) ?_
  refine g_copy (sp := 0) (dp := 0) (c := 12) ac_l (by decide +kernel) (by omega) (by omega) hF.a2 hS.a2 rfl rfl rfl (by decide) (by decide) ⟨by decide, by decide⟩ (by decide) (by decide) ?_
  generalize hτ3 : zcp τ2 (f + 2) 0 (b + 2) 0 12 = τ3
  have o3 : ∀ a, a ≠ b + 2 → τ3 a = τ2 a := fun a ha => by rw [← hτ3]; exact zcp_other ha
  have e3 : ∀ j, j < 12 → τ3 (b + 2) j = τ2 (f + 2) j := fun j hj => by rw [← hτ3, zcp_in (by omega) (by omega)]; simp
  clear hτ3
  refine g_aload_n (i := 1) (by decide +kernel) rfl ?_
  refine g_getr f_Sh_18 (by decide +kernel) (by omega) hF.a0 rfl ?_
  refine g_iconst (a := 0) (by decide +kernel) ?_
  refine g_aload_n (i := 0) (by decide +kernel) rfl ?_
  refine g_getr f_Sh_18 (by decide +kernel) (by omega) hS.a0 rfl ?_
  refine g_iconst (a := 0) (by decide +kernel) ?_
  refine g_bipush (a := 12) (by decide +kernel) (by decide) ?_
  refine g_copy (sp := 0) (dp := 0) (c := 12) ac_l (by decide +kernel) (by omega) (by omega) hF.a3 hS.a3 rfl rfl rfl (by decide) (by decide) ⟨by decide, by decide⟩ (by decide) (by decide) ?_
  generalize hτ4 : zcp τ3 (f + 3) 0 (b + 3) 0 12 = τ4
  have o4 : ∀ a, a ≠ b + 3 → τ4 a = τ3 a := fun a ha => by rw [← hτ4]; exact zcp_other ha
  have e4 : ∀ j, j < 12 → τ4 (b + 3) j = τ3 (f + 3) j := fun j hj => by rw [← hτ4, zcp_in (by omega) (by omega)]; simp
  clear hτ4
  refine g_aload_n (i := 1) (by decide +kernel) rfl ?_
  refine g_getr f_Sh_21 (by decide +kernel) (by omega) hF.a0 rfl ?_
  refine g_iconst (a := 0) (by decide +kernel) ?_
  refine g_aload_n (i := 0) (by decide +kernel) rfl ?_
  refine g_getr f_Sh_21 (by decide +kernel) (by omega) hS.a0 rfl ?_
  refine g_iconst (a := 0) (by decide +kernel) ?_
  refine g_bipush (a := 12) (by decide +kernel) (by decide) ?_
  refine g_copy (sp := 0) (dp := 0) (c := 12) ac_l (by decide +kernel) (by omega) (by omega) hF.a4 hS.a4 rfl rfl rfl (by decide) (by decide) ⟨by decide, by decide⟩ (by decide) (by decide) ?_
  generalize hτ5 : zcp τ4 (f + 4) 0 (b + 4) 0 12 = τ5
  have o5 : ∀ a, a ≠ b + 4 → τ5 a = τ4 a := fun a ha => by rw [← hτ5]; exact zcp_other ha
  have e5 : ∀ j, j < 12 → τ5 (b + 4) j = τ4 (f + 4) j := fun j hj => by rw [← hτ5, zcp_in (by omega) (by omega)]; simp
  clear hτ5
  refine g_aload_n (i := 1) (by decide +kernel) rfl ?_
  refine g_getr f_Sh_24 (by decide +kernel) (by omega) hF.a0 rfl ?_
  refine g_iconst (a := 0) (by decide +kernel) ?_
  refine g_aload_n (i := 0) (by decide +kernel) rfl ?_
  refine g_getr f_Sh_24 (by decide +kernel) (by omega) hS.a0 rfl ?_
  refine g_iconst (a := 0) (by decide +kernel) ?_
  refine g_bipush (a := 12) (by decide +kernel) (by decide) ?_
  refine g_copy (sp := 0) (dp := 0) (c := 12) ac_l (by decide +kernel) (by omega) (by omega) hF.a5 hS.a5 rfl rfl rfl (by decide) (by decide) ⟨by decide, by decide⟩ (by decide) (by decide) ?_
  generalize hτ6 : zcp τ5 (f + 5) 0 (b + 5) 0 12 = τ6
  have o6 : ∀ a, a ≠ b + 5 → τ6 a = τ5 a := fun a ha => by rw [← hτ6]; exact zcp_other ha
  have e6 : ∀ j, j < 12 → τ6 (b + 5) j = τ5 (f + 5) j := fun j hj => by rw [← hτ6, zcp_in (by omega) (by omega)]; simp
  clear hτ6
  refine g_aload_n (i := 1) (by decide +kernel) rfl ?_
  refine g_getr f_Sh_27 (by decide +kernel) (by omega) hF.a0 rfl ?_
  refine g_iconst (a := 0) (by decide +kernel) ?_
  refine g_aload_n (i := 0) (by decide +kernel) rfl ?_
  refine g_getr f_Sh_27 (by decide +kernel) (by omega) hS.a0 rfl ?_
  refine g_iconst (a := 0) (by decide +kernel) ?_
  refine g_bipush (a := 12) (by decide +kernel) (by decide) ?_
  refine g_copy (sp := 0) (dp := 0) (c := 12) ac_l (by decide +kernel) (by omega) (by omega) hF.a6 hS.a6 rfl rfl rfl (by decide) (by decide) ⟨by decide, by decide⟩ (by decide) (by decide) ?_
  generalize hτ7 : zcp τ6 (f + 6) 0 (b + 6) 0 12 = τ7
  have o7 : ∀ a, a ≠ b + 6 → τ7 a = τ6 a := fun a ha => by rw [← hτ7]; exact zcp_other ha
  have e7 : ∀ j, j < 12 → τ7 (b + 6) j = τ6 (f + 6) j := fun j hj => by rw [← hτ7, zcp_in (by omega) (by omega)]; simp
  clear hτ7
  refine g_aload_n (i := 1) (by decide +kernel) rfl ?_
  refine g_getr f_Sh_30 (by decide +kernel) (by omega) hF.a0 rfl ?_
  refine g_iconst (a := 0) (by decide +kernel) ?_
  refine g_aload_n (i := 0) (by decide +kernel) rfl ?_
  refine g_getr f_Sh_30 (by decide +kernel) (by omega) hS.a0 rfl ?_
  refine g_iconst (a := 0) (by decide +kernel) ?_
  refine g_bipush (a := 108) (by decide +kernel) (by decide) ?_
  refine g_copy (sp := 0) (dp := 0) (c := 108) ac_l (by decide +kernel) (by omega) (by omega) hF.a7 hS.a7 rfl rfl rfl (by decide) (by decide) ⟨by decide, by decide⟩ (by decide) (by decide) ?_
  generalize hτ8 : zcp τ7 (f + 7) 0 (b + 7) 0 108 = τ8
  have o8 : ∀ a, a ≠ b + 7 → τ8 a = τ7 a := fun a ha => by rw [← hτ8]; exact zcp_other ha
  have e8 : ∀ j, j < 108 → τ8 (b + 7) j = τ7 (f + 7) j := fun j hj => by rw [← hτ8, zcp_in (by omega) (by omega)]; simp
  clear hτ8
  refine g_aload_n (i := 0) (by decide +kernel) rfl ?_
  refine g_aload_n (i := 1) (by decide +kernel) rfl ?_
  refine g_geti f_Sh_49 (by decide +kernel) (by omega) hF.a0 rfl ?_
  refine g_puti f_Sh_49 (by decide +kernel) (by omega) hS.a0 rfl ?_
  generalize hτ9 : zs τ8 b 8 (τ8 f 8) = τ9
  have o9 : ∀ a, a ≠ b → τ9 a = τ8 a := fun a ha => by rw [← hτ9]; exact zs_other ha
  have e9 : τ9 b = zu (τ8 b) 8 (τ8 f 8) := by rw [← hτ9]; exact zs_row _ _ _ _
  clear hτ9
  refine g_aload_n (i := 1) (by decide +kernel) rfl ?_
  refine g_getr f_Sh_33 (by decide +kernel) (by omega) hF.a0 rfl ?_
  refine g_iconst (a := 0) (by decide +kernel) ?_
  refine g_aload_n (i := 0) (by decide +kernel) rfl ?_
  refine g_getr f_Sh_33 (by decide +kernel) (by omega) hS.a0 rfl ?_
  refine g_iconst (a := 0) (by decide +kernel) ?_
  refine g_bipush (a := 6) (by decide +kernel) (by decide) ?_
  refine g_copy (sp := 0) (dp := 0) (c := 6) ac_l (by decide +kernel) (by omega) (by omega) hF.a8 hS.a8 rfl rfl rfl (by decide) (by decide) ⟨by decide, by decide⟩ (by decide) (by decide) ?_
  generalize hτ10 : zcp τ9 (f + 8) 0 (b + 8) 0 6 = τ10
  have o10 : ∀ a, a ≠ b + 8 → τ10 a = τ9 a := fun a ha => by rw [← hτ10]; exact zcp_other ha
  have e10 : ∀ j, j < 6 → τ10 (b + 8) j = τ9 (f + 8) j := fun j hj => by rw [← hτ10, zcp_in (by omega) (by omega)]; simp
  clear hτ10
  refine g_aload_n (i := 1) (by decide +kernel) rfl ?_
  refine g_getr f_Sh_36 (by decide +kernel) (by omega) hF.a0 rfl ?_
  refine g_iconst (a := 0) (by decide +kernel) ?_
  refine g_aload_n (i := 0) (by decide +kernel) rfl ?_
  refine g_getr f_Sh_36 (by decide +kernel) (by omega) hS.a0 rfl ?_
  refine g_iconst (a := 0) (by decide +kernel) ?_
  refine g_bipush (a := 6) (by decide +kernel) (by decide) ?_
  refine g_copy (sp := 0) (dp := 0) (c := 6) ac_l (by decide +kernel) (by omega) (by omega) hF.a9 hS.a9 rfl rfl rfl (by decide) (by decide) ⟨by decide, by decide⟩ (by decide) (by decide) ?_
  generalize hτ11 : zcp τ10 (f + 9) 0 (b + 9) 0 6 = τ11
  have o11 : ∀ a, a ≠ b + 9 → τ11 a = τ10 a := fun a ha => by rw [← hτ11]; exact zcp_other ha
  have e11 : ∀ j, j < 6 → τ11 (b + 9) j = τ10 (f + 9) j := fun j hj => by rw [← hτ11, zcp_in (by omega) (by omega)]; simp
  clear hτ11
  refine g_retV (by decide +kernel) rfl ⟨by decide, by decide⟩ ?_
  have z : ∀ a, (a < b ∨ b + 10 ≤ a) → τ11 a = σ a := fun a ha => by rw [o11 _ (by omega), o10 _ (by omega), o9 _ (by omega), o8 _ (by omega), o7 _ (by omega), o6 _ (by omega), o5 _ (by omega), o4 _ (by omega), o3 _ (by omega), o2 _ (by omega), o1 _ (by omega)]
  have y : ∀ j, τ11 b j = zu (zu (σ b) 0 (σ f 0)) 8 (σ f 8) j := fun j => by rw [o11 _ (by omega), o10 _ (by omega), e9, o8 _ (by omega), o7 _ (by omega), o6 _ (by omega), o5 _ (by omega), o4 _ (by omega), o3 _ (by omega), o2 _ (by omega), e1, show τ8 f = σ f by rw [o8 _ (by omega), o7 _ (by omega), o6 _ (by omega), o5 _ (by omega), o4 _ (by omega), o3 _ (by omega), o2 _ (by omega), o1 _ (by omega)]]
  have r1 : ∀ j, j < 12 → τ11 (b + 1) j = σ (f + 1) j := fun j hj => by rw [o11 _ (by omega), o10 _ (by omega), o9 _ (by omega), o8 _ (by omega), o7 _ (by omega), o6 _ (by omega), o5 _ (by omega), o4 _ (by omega), o3 _ (by omega), e2 j hj, o1 _ (by omega)]
  have r2 : ∀ j, j < 12 → τ11 (b + 2) j = σ (f + 2) j := fun j hj => by rw [o11 _ (by omega), o10 _ (by omega), o9 _ (by omega), o8 _ (by omega), o7 _ (by omega), o6 _ (by omega), o5 _ (by omega), o4 _ (by omega), e3 j hj, o2 _ (by omega), o1 _ (by omega)]
  have r3 : ∀ j, j < 12 → τ11 (b + 3) j = σ (f + 3) j := fun j hj => by rw [o11 _ (by omega), o10 _ (by omega), o9 _ (by omega), o8 _ (by omega), o7 _ (by omega), o6 _ (by omega), o5 _ (by omega), e4 j hj, o3 _ (by omega), o2 _ (by omega), o1 _ (by omega)]
  have r4 : ∀ j, j < 12 → τ11 (b + 4) j = σ (f + 4) j := fun j hj => by rw [o11 _ (by omega), o10 _ (by omega), o9 _ (by omega), o8 _ (by omega), o7 _ (by omega), o6 _ (by omega), e5 j hj, o4 _ (by omega), o3 _ (by omega), o2 _ (by omega), o1 _ (by omega)]
  have r5 : ∀ j, j < 12 → τ11 (b + 5) j = σ (f + 5) j := fun j hj => by rw [o11 _ (by omega), o10 _ (by omega), o9 _ (by omega), o8 _ (by omega), o7 _ (by omega), e6 j hj, o5 _ (by omega), o4 _ (by omega), o3 _ (by omega), o2 _ (by omega), o1 _ (by omega)]
  have r6 : ∀ j, j < 12 → τ11 (b + 6) j = σ (f + 6) j := fun j hj => by rw [o11 _ (by omega), o10 _ (by omega), o9 _ (by omega), o8 _ (by omega), e7 j hj, o6 _ (by omega), o5 _ (by omega), o4 _ (by omega), o3 _ (by omega), o2 _ (by omega), o1 _ (by omega)]
  have r7 : ∀ j, j < 108 → τ11 (b + 7) j = σ (f + 7) j := fun j hj => by rw [o11 _ (by omega), o10 _ (by omega), o9 _ (by omega), e8 j hj, o7 _ (by omega), o6 _ (by omega), o5 _ (by omega), o4 _ (by omega), o3 _ (by omega), o2 _ (by omega), o1 _ (by omega)]
  have r8 : ∀ j, j < 6 → τ11 (b + 8) j = σ (f + 8) j := fun j hj => by rw [o11 _ (by omega), e10 j hj, o9 _ (by omega), o8 _ (by omega), o7 _ (by omega), o6 _ (by omega), o5 _ (by omega), o4 _ (by omega), o3 _ (by omega), o2 _ (by omega), o1 _ (by omega)]
  have r9 : ∀ j, j < 6 → τ11 (b + 9) j = σ (f + 9) j := fun j hj => by rw [e11 j hj, o10 _ (by omega), o9 _ (by omega), o8 _ (by omega), o7 _ (by omega), o6 _ (by omega), o5 _ (by omega), o4 _ (by omega), o3 _ (by omega), o2 _ (by omega), o1 _ (by omega)]
  refine ⟨by rw [y, zu_ne (by decide), zu_eq], by rw [y, zu_eq], fun r h1 h2 k hk => ?_, r7, fun i hi => ⟨r8 i hi, r9 i hi⟩, z⟩
  rcases (by omega : r = 1 ∨ r = 2 ∨ r = 3 ∨ r = 4 ∨ r = 5 ∨ r = 6) with rfl | rfl | rfl | rfl | rfl | rfl
  · exact r1 k hk
  · exact r2 k hk
  · exact r3 k hk
  · exact r4 k hk
  · exact r5 k hk
  · exact r6 k hk
end
section
/-- a new clip q: the row of its marks -/
def zmk (f : Nat → Int) (q w : Nat) : Nat → Int := fun j => if 9 * q ≤ j ∧ j < 9 * q + w then zTab 0 (j - 9 * q) else f j
theorem zmk_0 (f : Nat → Int) (q : Nat) : zmk f q 0 = f := by
  funext j
  exact if_neg (by omega)
theorem zmk_s (f : Nat → Int) (q w : Nat) : zu (zmk f q w) (9 * q + w) (zTab 0 w) = zmk f q (w + 1) := by
  funext j
  unfold zu zmk
  by_cases h : j = 9 * q + w
  · subst h
    rw [if_pos rfl, if_pos (by omega), show 9 * q + w - 9 * q = w by omega]
  · rw [if_neg h]
    by_cases h2 : 9 * q ≤ j ∧ j < 9 * q + w
    · rw [if_pos h2, if_pos (by omega)]
    · rw [if_neg h2, if_neg (by omega)]
/-- a Show with one clip more -/
def zApp (σ : zSt) (b : Nat) (x y p : Int) : zSt := zrow (zs (zs (zs (zs (zs (zs (zs σ b 0 (σ b 0 + 1)) (b + 1) (σ b 0).toNat x) (b + 2) (σ b 0).toNat y) (b + 3) (σ b 0).toNat p) (b + 4) (σ b 0).toNat 0) (b + 5) (σ b 0).toNat (-1)) (b + 6) (σ b 0).toNat 0) (b + 7) (zmk (σ (b + 7)) (σ b 0).toNat 9)
theorem w_Sh_append {G : zG} {X : zX} {n : Nat} {τ : zSt} {b q : Nat} {x y p : Int} (hn : 189 ≤ n) (hS : zSw SH b) (hq : q < 12) {f : Nat → Int} : ∀ (m : Nat) (i : Nat) (x5 : Int), x5 = (i : Int) → i ≤ 9 → 9 < i + m → Go G X m_Sh_append (2, 0, 0, 0, 0) n SH (zrow τ (b + 7) (zmk f q i)) 64 [(0, vr G b), (1, vi x), (2, vi y), (3, vi q), (4, vi p), (5, vi x5)] [] (zI n SH (fun a σ' => a = (q : Int) ∧ σ' = zrow τ (b + 7) (zmk f q 9))) := by
  intro m
  induction m with
  | zero => intro i x5 e5 hi hm; exact absurd hm (by omega)
  | succ m ih =>
    intro i x5 e5 hi hm
    have hb := hS.1
    subst e5
    refine g_iload (i := 5) (by decide +kernel) rfl ?_
    refine g_bipush (a := 9) (by decide +kernel) (by decide) ?_
    refine g_icmp_ge (off := 22) (tgt := 90) (by decide +kernel) (by decide) ⟨by omega, by omega⟩ ⟨by omega, by omega⟩ (fun h68 => ?_) (fun h68 => ?_)
    · refine g_iload_n (i := 3) (by decide +kernel) rfl ?_
      refine g_retI (by decide +kernel) rfl (Or.inl rfl) ⟨by decide, by decide⟩ ?_
      exact ⟨rfl, by rw [show i = 9 by omega]⟩
    · refine g_aload_n (i := 0) (by decide +kernel) rfl ?_
      refine g_iload_n (i := 3) (by decide +kernel) rfl ?_
      refine g_iload (i := 5) (by decide +kernel) rfl ?_
      refine g_getsN (x := 73) 0 (by decide) (by decide +kernel) (by decide) ?_
      refine g_iload (i := 5) (by decide +kernel) rfl ?_
      refine g_tald 0 (by decide) (j := i) (by decide +kernel) rfl (by show _ < 9; omega) ?_
      refine g_cVV (st := []) (c_Sh_putMark (k := q) (w := i) hn hS hq (by omega)) k_Sh_putMark l_Sh_76 (by decide +kernel) (by omega) hS.a0 rfl rfl rfl (Nat.le_of_ble_eq_true rfl) (by decide) ⟨by decide, by decide⟩ ?_
      rintro σ1 hσ
      rw [zs_zrow, zmk_s] at hσ
      obtain rfl := hσ.symm
      refine g_iinc (i := 5) (b := 1) (L' := [(0, _), (1, _), (2, _), (3, _), (4, _), (5, _)]) (by decide +kernel) rfl rfl rfl ?_
      refine g_goto (off := -23) (tgt := 64) (by decide +kernel) (by decide) ?_
      exact ih (i + 1) _ (by omega) (by omega) (by omega)
theorem Go.mono {G : zG} {X : zX} {M : zM} {κ : zK} {n : Nat} {sh : Nat → zSh} {σ : zSt} {pc : Nat} {L : List (Nat × Value)} {st : List Value} {post post' : zPost} (h : Go G X M κ n sh σ pc L st post) (hp : ∀ r n' sh' σ', post r n' sh' σ' → post' r n' sh' σ') : Go G X M κ n sh σ pc L st post' := fun C H locs ls h1 h2 h3 h4 T hT Xs => by
  obtain ⟨t, a1, o, b1, b2, ⟨⟨r, n', sh', σ', e1, e2, e3⟩, e4⟩, e5⟩ := h C H locs ls h1 h2 h3 h4 T hT Xs
  exact ⟨t, a1, o, b1, b2, ⟨⟨r, n', sh', σ', e1, hp _ _ _ _ e2, e3⟩, e4⟩, e5⟩
theorem zrow_same {σ : zSt} {a : Nat} {f : Nat → Int} (h : σ a = f) : zrow σ a f = σ := by rw [← h]; exact zrow_id σ a
theorem c_Sh_append {G : zG} {n : Nat} {σ : zSt} {b : Nat} {x y : Int} (hn : 189 ≤ n) (hS : zSw SH b) (hg : zGood σ b) (hc12 : σ b 0 < 12) (hy : -1 ≤ y ∧ y ≤ 11) : Gm G y_Sh_append m_Sh_append 2 0 0 [vr G b, vi x, vi y] n SH σ (zI n SH (fun a σ' => a = σ b 0 ∧ σ' = zApp σ b x y (if y = -1 then 0 else (zcnt (fun j => decide (σ (b + 2) j = y)) (σ b 0).toNat : Int)))) := by
  refine g_enter (L := [(0, _), (1, _), (2, _)]) (by decide) rfl rfl rfl (Nat.le_of_ble_eq_true rfl) (fun X => ?_)
  have hb := hS.1
  have hc := hg.1
  have J19 : Go G X m_Sh_append (2, 0, 0, 0, 0) n SH σ 19 [(0, vr G b), (1, vi x), (2, vi y), (3, vi (σ b 0))] [vi (if y = -1 then 0 else (zcnt (fun j => decide (σ (b + 2) j = y)) (σ b 0).toNat : Int))] (zI n SH (fun a σ' => a = σ b 0 ∧ σ' = zApp σ b x y (if y = -1 then 0 else (zcnt (fun j => decide (σ (b + 2) j = y)) (σ b 0).toNat : Int)))) := by
    refine g_istore (i := 4) (L' := [(0, _), (1, _), (2, _), (3, _), (4, _)]) (by decide +kernel) rfl rfl ?_
    refine g_aload_n (i := 0) (by decide +kernel) rfl ?_
    refine g_dup (by decide +kernel) rfl ?_
    refine g_geti f_Sh_39 (by decide +kernel) (by omega) hS.a0 rfl ?_
    refine g_iconst (a := 1) (by decide +kernel) ?_
    refine g_iadd (by decide +kernel) ?_
    refine g_puti f_Sh_39 (by decide +kernel) (by omega) hS.a0 rfl ?_
    refine g_aload_n (i := 0) (by decide +kernel) rfl ?_
    refine g_getr f_Sh_9 (by decide +kernel) (by omega) hS.a0 rfl ?_
    refine g_iload_n (i := 3) (by decide +kernel) rfl ?_
    refine g_iload_n (i := 1) (by decide +kernel) rfl ?_
    refine g_iast (j := (σ b 0).toNat) (by decide +kernel) (by omega) hS.a1 (by omega) (by omega) (by decide) ?_
    refine g_aload_n (i := 0) (by decide +kernel) rfl ?_
    refine g_getr f_Sh_15 (by decide +kernel) (by omega) hS.a0 rfl ?_
    refine g_iload_n (i := 3) (by decide +kernel) rfl ?_
    refine g_iload_n (i := 2) (by decide +kernel) rfl ?_
    refine g_iast (j := (σ b 0).toNat) (by decide +kernel) (by omega) hS.a2 (by omega) (by omega) (by decide) ?_
    refine g_aload_n (i := 0) (by decide +kernel) rfl ?_
    refine g_getr f_Sh_18 (by decide +kernel) (by omega) hS.a0 rfl ?_
    refine g_iload_n (i := 3) (by decide +kernel) rfl ?_
    refine g_iload (i := 4) (by decide +kernel) rfl ?_
    refine g_iast (j := (σ b 0).toNat) (by decide +kernel) (by omega) hS.a3 (by omega) (by omega) (by decide) ?_
    refine g_aload_n (i := 0) (by decide +kernel) rfl ?_
    refine g_iload_n (i := 3) (by decide +kernel) rfl ?_
    refine g_iconst (a := 0) (by decide +kernel) ?_
    refine g_iconst (a := -1) (by decide +kernel) ?_
    refine g_iconst (a := 0) (by decide +kernel) ?_
    refine g_eq (st' := [vi 0, vi (-1), vi 0, vi (((σ b 0).toNat : Nat) : Int), vr G b]) ?_ rfl rfl (by rw [show (((σ b 0).toNat : Nat) : Int) = σ b 0 by omega])
    refine g_cVV (st := []) (c_Sh_putStart hn hS (by omega)) k_Sh_putStart l_Sh_69 (by decide +kernel) (by omega) hS.a0 rfl rfl rfl (Nat.le_of_ble_eq_true rfl) (by decide) ⟨by decide, by decide⟩ ?_
    rintro σ1 hσ
    obtain rfl := hσ.symm
    refine g_iconst (a := 0) (by decide +kernel) ?_
    refine g_istore (i := 5) (L' := [(0, _), (1, _), (2, _), (3, _), (4, _), (5, _)]) (by decide +kernel) rfl rfl ?_
    have w := w_Sh_append (G := G) (X := X) (τ := zs (zs (zs (zs (zs (zs (zs σ b 0 (σ b 0 + 1)) (b + 1) (σ b 0).toNat x) (b + 2) (σ b 0).toNat y) (b + 3) (σ b 0).toNat (if y = -1 then 0 else (zcnt (fun j => decide (σ (b + 2) j = y)) (σ b 0).toNat : Int))) (b + 4) (σ b 0).toNat 0) (b + 5) (σ b 0).toNat (-1)) (b + 6) (σ b 0).toNat 0) (x := x) (y := y) (p := (if y = -1 then 0 else (zcnt (fun j => decide (σ (b + 2) j = y)) (σ b 0).toNat : Int))) (q := (σ b 0).toNat) (f := σ (b + 7)) hn hS (by omega) 10 0 0 rfl (by omega) (by omega)
    rw [zmk_0, zrow_same (show (zs (zs (zs (zs (zs (zs (zs σ b 0 (σ b 0 + 1)) (b + 1) (σ b 0).toNat x) (b + 2) (σ b 0).toNat y) (b + 3) (σ b 0).toNat (if y = -1 then 0 else (zcnt (fun j => decide (σ (b + 2) j = y)) (σ b 0).toNat : Int))) (b + 4) (σ b 0).toNat 0) (b + 5) (σ b 0).toNat (-1)) (b + 6) (σ b 0).toNat 0) (b + 7) = σ (b + 7) by simp [zs_app])] at w
    refine Go.mono (g_eq w rfl (by rw [show (((σ b 0).toNat : Nat) : Int) = σ b 0 by omega]) rfl) ?_
    rintro r n' sh' σ' ⟨⟨a, rfl, e1, e2⟩, rfl, rfl⟩
    exact ⟨⟨a, rfl, by omega, e2⟩, rfl, rfl⟩
  refine g_aload_n (i := 0) (by decide +kernel) rfl ?_
  refine g_geti f_Sh_39 (by decide +kernel) (by omega) hS.a0 rfl ?_
  refine g_istore_n (i := 3) (L' := [(0, _), (1, _), (2, _), (3, _)]) (by decide +kernel) rfl rfl ?_
  refine g_iload_n (i := 2) (by decide +kernel) rfl ?_
  refine g_iconst (a := -1) (by decide +kernel) ?_
  refine g_icmp_ne (off := 7) (tgt := 14) (by decide +kernel) (by decide) ⟨by omega, by omega⟩ ⟨by omega, by omega⟩ (fun h7 => ?_) (fun h7 => ?_)
  · refine g_aload_n (i := 0) (by decide +kernel) rfl ?_
    refine g_iload_n (i := 2) (by decide +kernel) rfl ?_
    refine g_cVI (st := []) (c_Sh_howManyIn (k := y) hn hS hg ⟨by omega, by omega⟩) k_Sh_howManyIn l_Sh_66 (by decide +kernel) (by omega) hS.a0 rfl rfl rfl (Nat.le_of_ble_eq_true rfl) (by decide) ⟨by decide, by decide⟩ ?_
    rintro a σ1 ⟨rfl, hσ⟩
    obtain rfl := hσ.symm
    exact g_eq J19 rfl rfl (by first | rw [if_pos h7] | rw [if_neg h7])
  · refine g_iconst (a := 0) (by decide +kernel) ?_
    refine g_goto (off := 8) (tgt := 19) (by decide +kernel) (by decide) ?_
    exact g_eq J19 rfl rfl (by first | rw [if_pos h7] | rw [if_neg h7])
theorem zu_app {α : Type} (f : Nat → α) (k : Nat) (v : α) (j : Nat) : zu f k v j = if j = k then v else f j := rfl
/-- a press less: those behind it close up -/
def zDropP (σ σ' : zSt) (b i : Nat) : Prop := σ' b = zu (σ b) 8 (σ b 8 - 1) ∧ (∀ j, j < i → σ' (b + 8) j = σ (b + 8) j ∧ σ' (b + 9) j = σ (b + 9) j) ∧ (∀ j : Nat, i ≤ j → (j : Int) < σ b 8 - 1 → σ' (b + 8) j = σ (b + 8) (j + 1) ∧ σ' (b + 9) j = σ (b + 9) (j + 1)) ∧ (∀ j : Nat, σ b 8 - 1 ≤ j → σ' (b + 8) j = σ (b + 8) j ∧ σ' (b + 9) j = σ (b + 9) j) ∧ ∀ a, a ≠ b → a ≠ b + 8 → a ≠ b + 9 → σ' a = σ a
theorem w_Sh_dropPress {G : zG} {X : zX} {n : Nat} {σ : zSt} {b k : Nat} {x1 : Int} (hn : 189 ≤ n) (hS : zSw SH b) (hg : zGood σ b) : ∀ (m : Nat) (i : Nat) (x2 : Int) (τ : zSt), x2 = (i : Int) → τ b 8 = σ b 8 - 1 → (∀ j, j < i → τ (b + 8) j = (if j < k then σ (b + 8) j else σ (b + 8) (j + 1)) ∧ τ (b + 9) j = (if j < k then σ (b + 9) j else σ (b + 9) (j + 1))) → (∀ j, i ≤ j → τ (b + 8) j = σ (b + 8) j ∧ τ (b + 9) j = σ (b + 9) j) → (∀ a, a ≠ b → a ≠ b + 8 → a ≠ b + 9 → τ a = σ a) → τ b = zu (σ b) 8 (σ b 8 - 1) → k ≤ i → (i : Int) ≤ σ b 8 - 1 → σ b 8 - 1 < (i : Int) + m → Go G X m_Sh_dropPress (0, 0, 0, 0, 0) n SH τ 12 [(0, vr G b), (1, vi x1), (2, vi x2)] [] (zV n SH (fun σ' => zDropP σ σ' b k)) := by
  intro m
  induction m with
  | zero => intro i x2 τ e2 t0 t1 t2 t3 t4 hki hi hm; exact absurd hm (by omega)
  | succ m ih =>
    intro i x2 τ e2 t0 t1 t2 t3 t4 hki hi hm
    have hb := hS.1
    have hc := hg.1
    subst e2
    refine g_iload_n (i := 2) (by decide +kernel) rfl ?_
    refine g_aload_n (i := 0) (by decide +kernel) rfl ?_
    refine g_geti f_Sh_49 (by decide +kernel) (by omega) hS.a0 rfl ?_
    refine g_icmp_ge (off := 37) (tgt := 54) (by decide +kernel) (by decide) ⟨by omega, by omega⟩ ⟨by omega, by omega⟩ (fun h17 => ?_) (fun h17 => ?_)
    · refine g_retV (by decide +kernel) rfl ⟨by decide, by decide⟩ ?_
      refine ⟨t4, fun j hj => ?_, fun j h1 h2 => ?_, fun j hj => t2 j (by omega), t3⟩
      · have := t1 j (by omega)
        rwa [if_pos hj, if_pos hj] at this
      · have := t1 j (by omega)
        rwa [if_neg (by omega), if_neg (by omega)] at this
    · refine g_aload_n (i := 0) (by decide +kernel) rfl ?_
      refine g_getr f_Sh_33 (by decide +kernel) (by omega) hS.a0 rfl ?_
      refine g_iload_n (i := 2) (by decide +kernel) rfl ?_
      refine g_aload_n (i := 0) (by decide +kernel) rfl ?_
      refine g_getr f_Sh_33 (by decide +kernel) (by omega) hS.a0 rfl ?_
      refine g_iload_n (i := 2) (by decide +kernel) rfl ?_
      refine g_iconst (a := 1) (by decide +kernel) ?_
      refine g_iadd (by decide +kernel) ?_
      refine g_iald (j := i + 1) (by decide +kernel) (by omega) hS.a8 (by omega) (by omega) (by decide) ?_
      refine g_iast (j := i) (by decide +kernel) (by omega) hS.a8 rfl (by omega) (by decide) ?_
      refine g_aload_n (i := 0) (by decide +kernel) rfl ?_
      refine g_getr f_Sh_36 (by decide +kernel) (by omega) hS.a0 rfl ?_
      refine g_iload_n (i := 2) (by decide +kernel) rfl ?_
      refine g_aload_n (i := 0) (by decide +kernel) rfl ?_
      refine g_getr f_Sh_36 (by decide +kernel) (by omega) hS.a0 rfl ?_
      refine g_iload_n (i := 2) (by decide +kernel) rfl ?_
      refine g_iconst (a := 1) (by decide +kernel) ?_
      refine g_iadd (by decide +kernel) ?_
      refine g_iald (j := i + 1) (by decide +kernel) (by omega) hS.a9 (by omega) (by omega) (by decide) ?_
      refine g_iast (j := i) (by decide +kernel) (by omega) hS.a9 rfl (by omega) (by decide) ?_
      refine g_iinc (i := 2) (b := 1) (L' := [(0, _), (1, _), (2, _)]) (by decide +kernel) rfl rfl rfl ?_
      refine g_goto (off := -39) (tgt := 12) (by decide +kernel) (by decide) ?_
      refine ih (i + 1) _ _ (by omega) (by simp [zs_app]; exact t0) (fun j hj => ?_) (fun j hj => ?_) (fun a h1 h2 h3 => by rw [zs_other h3, zs_other h2]; exact t3 a h1 h2 h3) (by rw [zs_other (by omega), zs_other (by omega)]; exact t4) (by omega) (by omega) (by omega)
      · rcases Nat.lt_or_ge j i with q | q
        · have := t1 j q
          simpa [zs_app, zu_app, show ¬ j = i by omega] using this
        · have e : j = i := by omega
          subst e
          have a1 := (t2 (j + 1) (by omega)).1
          have a2 := (t2 (j + 1) (by omega)).2
          simp [zs_app, zu_app, show ¬ j < k by omega, a1, a2]
      · have := t2 j (by omega)
        simpa [zs_app, zu_app, show ¬ j = i by omega] using this
theorem c_Sh_dropPress {G : zG} {n : Nat} {σ : zSt} {b : Nat} {i : Nat} (hn : 189 ≤ n) (hS : zSw SH b) (hg : zGood σ b) (hi : (i : Int) < σ b 8) : Gm G y_Sh_dropPress m_Sh_dropPress 0 0 0 [vr G b, vi i] n SH σ (zV n SH (fun σ' => zDropP σ σ' b i)) := by
  refine g_enter (L := [(0, _), (1, _)]) (by decide) rfl rfl rfl (Nat.le_of_ble_eq_true rfl) (fun X => ?_)
  have hb := hS.1
  have hc := hg.1
  refine g_aload_n (i := 0) (by decide +kernel) rfl ?_
  refine g_dup (by decide +kernel) rfl ?_
  refine g_geti f_Sh_49 (by decide +kernel) (by omega) hS.a0 rfl ?_
  refine g_iconst (a := 1) (by decide +kernel) ?_
  refine g_isub (by decide +kernel) ?_
  refine g_puti f_Sh_49 (by decide +kernel) (by omega) hS.a0 rfl ?_
  refine g_iload_n (i := 1) (by decide +kernel) rfl ?_
  refine g_istore_n (i := 2) (L' := [(0, _), (1, _), (2, _)]) (by decide +kernel) rfl rfl ?_
  exact w_Sh_dropPress hn hS hg 7 i _ _ rfl (by simp [zs_app, zu]) (fun j hj => by rw [zs_other (by omega), zs_other (by omega), if_pos hj, if_pos hj]; exact ⟨rfl, rfl⟩) (fun j hj => by rw [zs_other (by omega), zs_other (by omega)]; exact ⟨rfl, rfl⟩) (fun a h1 h2 h3 => zs_other h1) (zs_row _ _ _ _) (by omega) (by omega) (by omega)
/-- where a place goes when one moves from old to new -/
def zsp (old new p : Int) : Int := if new ≤ (if old < p then p - 1 else p) then (if old < p then p - 1 else p) + 1 else (if old < p then p - 1 else p)
def zShift (σ σ' : zSt) (b k : Nat) (new : Int) : Prop := (∀ a, a ≠ b + 3 → σ' a = σ a) ∧ σ' (b + 3) k = new ∧ (∀ j, j < (σ b 0).toNat → j ≠ k → σ' (b + 3) j = if σ (b + 2) j = σ (b + 2) k then zsp (σ (b + 3) k) new (σ (b + 3) j) else σ (b + 3) j) ∧ ∀ j, (σ b 0).toNat ≤ j → j ≠ k → σ' (b + 3) j = σ (b + 3) j
theorem w_Sh_shift {G : zG} {X : zX} {n : Nat} {σ : zSt} {b k : Nat} {y : Int} (hn : 189 ≤ n) (hS : zSw SH b) (hg : zGood σ b) (hk : k < 12) (hy : 0 ≤ y ∧ y ≤ 12) : ∀ (m : Nat) (i : Nat) (x4 : Int) (τ : zSt), x4 = (i : Int) → (∀ a, a ≠ b + 3 → τ a = σ a) → (∀ j, j < i → τ (b + 3) j = if j ≠ k ∧ σ (b + 2) j = σ (b + 2) k then zsp (σ (b + 3) k) y (σ (b + 3) j) else σ (b + 3) j) → (∀ j, i ≤ j → τ (b + 3) j = σ (b + 3) j) → i ≤ (σ b 0).toNat → (σ b 0).toNat < i + m → Go G X m_Sh_shift (0, 0, 0, 0, 0) n SH τ 10 [(0, vr G b), (1, vi k), (2, vi y), (3, vi (σ (b + 3) k)), (4, vi x4)] [] (zV n SH (fun σ' => zShift σ σ' b k y)) := by
  intro m
  induction m with
  | zero => intro i x4 τ e4 t0 t1 t2 hi hm; exact absurd hm (by omega)
  | succ m ih =>
    intro i x4 τ e4 t0 t1 t2 hi hm
    have hb := hS.1
    have hc := hg.1
    subst e4
    have s0 : τ b 0 = σ b 0 := by rw [t0 _ (by omega)]
    have s1 : ∀ j, τ (b + 2) j = σ (b + 2) j := fun j => by rw [t0 _ (by omega)]
    have s2 := s1 i
    have s3 := s1 k
    have s4 := t2 i (Nat.le_refl i)
    have hkk := hg.2.1 k hk
    refine g_iload (i := 4) (by decide +kernel) rfl ?_
    refine g_aload_n (i := 0) (by decide +kernel) rfl ?_
    refine g_geti f_Sh_39 (by decide +kernel) (by omega) hS.a0 rfl ?_
    refine g_icmp_ge (off := 75) (tgt := 91) (by decide +kernel) (by decide) ⟨by omega, by omega⟩ ⟨by omega, by omega⟩ (fun h16 => ?_) (fun h16 => ?_)
    · refine g_aload_n (i := 0) (by decide +kernel) rfl ?_
      refine g_getr f_Sh_18 (by decide +kernel) (by omega) hS.a0 rfl ?_
      refine g_iload_n (i := 1) (by decide +kernel) rfl ?_
      refine g_iload_n (i := 2) (by decide +kernel) rfl ?_
      refine g_iast (by decide +kernel) (by omega) hS.a3 rfl (by omega) (by decide) ?_
      refine g_retV (by decide +kernel) rfl ⟨by decide, by decide⟩ ?_
      refine ⟨fun a ha => by rw [zs_other ha]; exact t0 a ha, by simp [zs_app, zu], fun j hj hjk => ?_, fun j hj hjk => ?_⟩
      · have := t1 j (by omega)
        simp only [zs_app, zu, if_true, if_neg hjk]
        rw [this]
        simp [hjk]
      · simp only [zs_app, zu, if_true, if_neg hjk]
        exact t2 j (by omega)
    · have hk2 := hg.2.1 i (by omega)
      refine g_aload_n (i := 0) (by decide +kernel) rfl ?_
      refine g_getr f_Sh_15 (by decide +kernel) (by omega) hS.a0 rfl ?_
      refine g_iload (i := 4) (by decide +kernel) rfl ?_
      refine g_iald (j := i) (by decide +kernel) (by omega) hS.a2 rfl (by omega) (by decide) ?_
      refine g_aload_n (i := 0) (by decide +kernel) rfl ?_
      refine g_getr f_Sh_15 (by decide +kernel) (by omega) hS.a0 rfl ?_
      refine g_iload_n (i := 1) (by decide +kernel) rfl ?_
      refine g_iald (j := k) (by decide +kernel) (by omega) hS.a2 rfl (by omega) (by decide) ?_
      refine g_icmp_ne (off := 53) (tgt := 85) (by decide +kernel) (by decide) ⟨by omega, by omega⟩ ⟨by omega, by omega⟩ (fun h32 => ?_) (fun h32 => ?_)
      · refine g_iinc (i := 4) (b := 1) (L' := [(0, _), (1, _), (2, _), (3, _), (4, _)]) (by decide +kernel) rfl rfl rfl ?_
        refine g_goto (off := -78) (tgt := 10) (by decide +kernel) (by decide) ?_
        refine ih (i + 1) _ _ (by omega) (fun a ha => by first | exact t0 a ha | (rw [zs_other ha]; exact t0 a ha) | (rw [zs_other ha, zs_other ha]; exact t0 a ha)) (fun j hj => ?_) (fun j hj => ?_) (by omega) (by omega)
        · rcases Nat.lt_or_ge j i with q | q
          · have := t1 j q
            simpa [zs_app, zu, show ¬ j = i by omega] using this
          · have e : j = i := by omega
            subst e
            try simp only [zs_app, zu, if_true] at *
            unfold zsp
            (repeat' split) <;> omega
        · have := t2 j (by omega)
          simpa [zs_app, zu, show ¬ j = i by omega] using this
      · refine g_iload (i := 4) (by decide +kernel) rfl ?_
        refine g_iload_n (i := 1) (by decide +kernel) rfl ?_
        refine g_icmp_eq (off := 47) (tgt := 85) (by decide +kernel) (by decide) ⟨by omega, by omega⟩ ⟨by omega, by omega⟩ (fun h38 => ?_) (fun h38 => ?_)
        · refine g_iinc (i := 4) (b := 1) (L' := [(0, _), (1, _), (2, _), (3, _), (4, _)]) (by decide +kernel) rfl rfl rfl ?_
          refine g_goto (off := -78) (tgt := 10) (by decide +kernel) (by decide) ?_
          refine ih (i + 1) _ _ (by omega) (fun a ha => by first | exact t0 a ha | (rw [zs_other ha]; exact t0 a ha) | (rw [zs_other ha, zs_other ha]; exact t0 a ha)) (fun j hj => ?_) (fun j hj => ?_) (by omega) (by omega)
          · rcases Nat.lt_or_ge j i with q | q
            · have := t1 j q
              simpa [zs_app, zu, show ¬ j = i by omega] using this
            · have e : j = i := by omega
              subst e
              try simp only [zs_app, zu, if_true] at *
              unfold zsp
              (repeat' split) <;> omega
          · have := t2 j (by omega)
            simpa [zs_app, zu, show ¬ j = i by omega] using this
        · refine g_aload_n (i := 0) (by decide +kernel) rfl ?_
          refine g_getr f_Sh_18 (by decide +kernel) (by omega) hS.a0 rfl ?_
          refine g_iload (i := 4) (by decide +kernel) rfl ?_
          refine g_iald (j := i) (by decide +kernel) (by omega) hS.a3 rfl (by omega) (by decide) ?_
          refine g_iload_n (i := 3) (by decide +kernel) rfl ?_
          refine g_icmp_le (off := 14) (tgt := 63) (by decide +kernel) (by decide) ⟨by omega, by omega⟩ ⟨by omega, by omega⟩ (fun h49 => ?_) (fun h49 => ?_)
          · refine g_aload_n (i := 0) (by decide +kernel) rfl ?_
            refine g_getr f_Sh_18 (by decide +kernel) (by omega) hS.a0 rfl ?_
            refine g_iload (i := 4) (by decide +kernel) rfl ?_
            refine g_iald (j := i) (by decide +kernel) (by omega) hS.a3 rfl (by omega) (by decide) ?_
            refine g_iload_n (i := 2) (by decide +kernel) rfl ?_
            refine g_icmp_lt (off := 14) (tgt := 85) (by decide +kernel) (by decide) ⟨by first | omega | (simp [zs_app, zu]; omega), by first | omega | (simp [zs_app, zu]; omega)⟩ ⟨by omega, by omega⟩ (fun h71 => ?_) (fun h71 => ?_)
            · refine g_iinc (i := 4) (b := 1) (L' := [(0, _), (1, _), (2, _), (3, _), (4, _)]) (by decide +kernel) rfl rfl rfl ?_
              refine g_goto (off := -78) (tgt := 10) (by decide +kernel) (by decide) ?_
              refine ih (i + 1) _ _ (by omega) (fun a ha => by first | exact t0 a ha | (rw [zs_other ha]; exact t0 a ha) | (rw [zs_other ha, zs_other ha]; exact t0 a ha)) (fun j hj => ?_) (fun j hj => ?_) (by omega) (by omega)
              · rcases Nat.lt_or_ge j i with q | q
                · have := t1 j q
                  simpa [zs_app, zu, show ¬ j = i by omega] using this
                · have e : j = i := by omega
                  subst e
                  try simp only [zs_app, zu, if_true] at *
                  unfold zsp
                  (repeat' split) <;> omega
              · have := t2 j (by omega)
                simpa [zs_app, zu, show ¬ j = i by omega] using this
            · refine g_aload_n (i := 0) (by decide +kernel) rfl ?_
              refine g_getr f_Sh_18 (by decide +kernel) (by omega) hS.a0 rfl ?_
              refine g_iload (i := 4) (by decide +kernel) rfl ?_
              refine g_dup2 (by decide +kernel) rfl rfl ?_
              refine g_iald (j := i) (by decide +kernel) (by omega) hS.a3 rfl (by omega) (by decide) ?_
              refine g_iconst (a := 1) (by decide +kernel) ?_
              refine g_iadd (by decide +kernel) ?_
              refine g_iast (j := i) (by decide +kernel) (by omega) hS.a3 rfl (by omega) (by decide) ?_
              refine g_iinc (i := 4) (b := 1) (L' := [(0, _), (1, _), (2, _), (3, _), (4, _)]) (by decide +kernel) rfl rfl rfl ?_
              refine g_goto (off := -78) (tgt := 10) (by decide +kernel) (by decide) ?_
              refine ih (i + 1) _ _ (by omega) (fun a ha => by first | exact t0 a ha | (rw [zs_other ha]; exact t0 a ha) | (rw [zs_other ha, zs_other ha]; exact t0 a ha)) (fun j hj => ?_) (fun j hj => ?_) (by omega) (by omega)
              · rcases Nat.lt_or_ge j i with q | q
                · have := t1 j q
                  simpa [zs_app, zu, show ¬ j = i by omega] using this
                · have e : j = i := by omega
                  subst e
                  try simp only [zs_app, zu, if_true] at *
                  unfold zsp
                  (repeat' split) <;> omega
              · have := t2 j (by omega)
                simpa [zs_app, zu, show ¬ j = i by omega] using this
          · refine g_aload_n (i := 0) (by decide +kernel) rfl ?_
            refine g_getr f_Sh_18 (by decide +kernel) (by omega) hS.a0 rfl ?_
            refine g_iload (i := 4) (by decide +kernel) rfl ?_
            refine g_dup2 (by decide +kernel) rfl rfl ?_
            refine g_iald (j := i) (by decide +kernel) (by omega) hS.a3 rfl (by omega) (by decide) ?_
            refine g_iconst (a := 1) (by decide +kernel) ?_
            refine g_isub (by decide +kernel) ?_
            refine g_iast (j := i) (by decide +kernel) (by omega) hS.a3 rfl (by omega) (by decide) ?_
            refine g_aload_n (i := 0) (by decide +kernel) rfl ?_
            refine g_getr f_Sh_18 (by decide +kernel) (by omega) hS.a0 rfl ?_
            refine g_iload (i := 4) (by decide +kernel) rfl ?_
            refine g_iald (j := i) (by decide +kernel) (by omega) hS.a3 rfl (by omega) (by decide) ?_
            refine g_iload_n (i := 2) (by decide +kernel) rfl ?_
            refine g_icmp_lt (off := 14) (tgt := 85) (by decide +kernel) (by decide) ⟨by first | omega | (simp [zs_app, zu]; omega), by first | omega | (simp [zs_app, zu]; omega)⟩ ⟨by omega, by omega⟩ (fun h71 => ?_) (fun h71 => ?_)
            · refine g_iinc (i := 4) (b := 1) (L' := [(0, _), (1, _), (2, _), (3, _), (4, _)]) (by decide +kernel) rfl rfl rfl ?_
              refine g_goto (off := -78) (tgt := 10) (by decide +kernel) (by decide) ?_
              refine ih (i + 1) _ _ (by omega) (fun a ha => by first | exact t0 a ha | (rw [zs_other ha]; exact t0 a ha) | (rw [zs_other ha, zs_other ha]; exact t0 a ha)) (fun j hj => ?_) (fun j hj => ?_) (by omega) (by omega)
              · rcases Nat.lt_or_ge j i with q | q
                · have := t1 j q
                  simpa [zs_app, zu, show ¬ j = i by omega] using this
                · have e : j = i := by omega
                  subst e
                  try simp only [zs_app, zu, if_true] at *
                  unfold zsp
                  (repeat' split) <;> omega
              · have := t2 j (by omega)
                simpa [zs_app, zu, show ¬ j = i by omega] using this
            · refine g_aload_n (i := 0) (by decide +kernel) rfl ?_
              refine g_getr f_Sh_18 (by decide +kernel) (by omega) hS.a0 rfl ?_
              refine g_iload (i := 4) (by decide +kernel) rfl ?_
              refine g_dup2 (by decide +kernel) rfl rfl ?_
              refine g_iald (j := i) (by decide +kernel) (by omega) hS.a3 rfl (by omega) (by decide) ?_
              refine g_iconst (a := 1) (by decide +kernel) ?_
              refine g_iadd (by decide +kernel) ?_
              refine g_iast (j := i) (by decide +kernel) (by omega) hS.a3 rfl (by omega) (by decide) ?_
              refine g_iinc (i := 4) (b := 1) (L' := [(0, _), (1, _), (2, _), (3, _), (4, _)]) (by decide +kernel) rfl rfl rfl ?_
              refine g_goto (off := -78) (tgt := 10) (by decide +kernel) (by decide) ?_
              refine ih (i + 1) _ _ (by omega) (fun a ha => by first | exact t0 a ha | (rw [zs_other ha]; exact t0 a ha) | (rw [zs_other ha, zs_other ha]; exact t0 a ha)) (fun j hj => ?_) (fun j hj => ?_) (by omega) (by omega)
              · rcases Nat.lt_or_ge j i with q | q
                · have := t1 j q
                  simpa [zs_app, zu, show ¬ j = i by omega] using this
                · have e : j = i := by omega
                  subst e
                  try simp only [zs_app, zu, if_true] at *
                  unfold zsp
                  (repeat' split) <;> omega
              · have := t2 j (by omega)
                simpa [zs_app, zu, show ¬ j = i by omega] using this
theorem c_Sh_shift {G : zG} {n : Nat} {σ : zSt} {b : Nat} {k : Nat} {y : Int} (hn : 189 ≤ n) (hS : zSw SH b) (hg : zGood σ b) (hk : k < 12) (hy : 0 ≤ y ∧ y ≤ 12) : Gm G y_Sh_shift m_Sh_shift 0 0 0 [vr G b, vi k, vi y] n SH σ (zV n SH (fun σ' => zShift σ σ' b k y)) := by
  refine g_enter (L := [(0, _), (1, _), (2, _)]) (by decide) rfl rfl rfl (Nat.le_of_ble_eq_true rfl) (fun X => ?_)
  have hb := hS.1
  have hc := hg.1
  refine g_aload_n (i := 0) (by decide +kernel) rfl ?_
  refine g_getr f_Sh_18 (by decide +kernel) (by omega) hS.a0 rfl ?_
  refine g_iload_n (i := 1) (by decide +kernel) rfl ?_
  refine g_iald (by decide +kernel) (by omega) hS.a3 rfl (by omega) (by decide) ?_
  refine g_istore_n (i := 3) (L' := [(0, _), (1, _), (2, _), (3, _)]) (by decide +kernel) rfl rfl ?_
  refine g_iconst (a := 0) (by decide +kernel) ?_
  refine g_istore (i := 4) (L' := [(0, _), (1, _), (2, _), (3, _), (4, _)]) (by decide +kernel) rfl rfl ?_
  exact w_Sh_shift hn hS hg hk hy 13 0 _ _ rfl (fun _ _ => rfl) (fun j hj => by omega) (fun j _ => rfl) (by omega) (by omega)
end
section
/-- a number behind those that go -/
def zren (w : Nat → Bool) (x : Int) : Int := if x = -1 then -1 else x - (zcnt w x.toNat : Int)
/-- clip f comes to place t -/
def zCC (σ σ' : zSt) (b f t : Nat) (w : Nat → Bool) : Prop := σ' (b + 1) = zu (σ (b + 1)) t (σ (b + 1) f) ∧ σ' (b + 2) = zu (σ (b + 2)) t (zren w (σ (b + 2) f)) ∧ σ' (b + 3) = zu (σ (b + 3)) t (σ (b + 3) f) ∧ σ' (b + 4) = zu (σ (b + 4)) t (σ (b + 4) f) ∧ σ' (b + 5) = zu (σ (b + 5)) t (zren w (σ (b + 5) f)) ∧ σ' (b + 6) = zu (σ (b + 6)) t (σ (b + 6) f) ∧ (∀ j, σ' (b + 7) j = if 9 * t ≤ j ∧ j < 9 * t + 9 then σ (b + 7) (9 * f + (j - 9 * t)) else σ (b + 7) j) ∧ ∀ a, (a ≤ b ∨ b + 8 ≤ a) → σ' a = σ a
theorem c_Sh_copyClip {G : zG} {n : Nat} {σ : zSt} {b : Nat} {f t N : Nat} {w : Nat → Bool} (hn : 189 ≤ n) (hS : zSw SH b) (hg : zGood σ b) (hN : N ≤ 12) (hf : f < 12) (ht : t < 12) (h2 : -1 ≤ σ (b + 2) f ∧ σ (b + 2) f < N) (h5 : -1 ≤ σ (b + 5) f ∧ σ (b + 5) f < N) : Gm G y_Sh_copyClip m_Sh_copyClip 2 0 0 [vr G b, vi f, vi t, vi ((zbits w N : Nat) : Int)] n SH σ (zV n SH (fun σ' => zCC σ σ' b f t w)) := by
  refine g_enter (L := [(0, _), (1, _), (2, _), (3, _)]) (by decide) rfl rfl rfl (Nat.le_of_ble_eq_true rfl) (fun X => ?_)
  have hb := hS.1
  have hc := hg.1
  refine g_aload_n (i := 0) (by decide +kernel) rfl ?_
  refine g_getr f_Sh_9 (by decide +kernel) (by omega) hS.a0 rfl ?_
  refine g_iload_n (i := 2) (by decide +kernel) rfl ?_
  refine g_aload_n (i := 0) (by decide +kernel) rfl ?_
  refine g_getr f_Sh_9 (by decide +kernel) (by omega) hS.a0 rfl ?_
  refine g_iload_n (i := 1) (by decide +kernel) rfl ?_
  refine g_iald (by decide +kernel) (by omega) hS.a1 rfl (by omega) (by decide) ?_
  refine g_iast (by decide +kernel) (by omega) hS.a1 rfl (by omega) (by decide) ?_
  refine g_aload_n (i := 0) (by decide +kernel) rfl ?_
  refine g_getr f_Sh_15 (by decide +kernel) (by omega) hS.a0 rfl ?_
  refine g_iload_n (i := 2) (by decide +kernel) rfl ?_
  refine g_aload_n (i := 0) (by decide +kernel) rfl ?_
  refine g_getr f_Sh_15 (by decide +kernel) (by omega) hS.a0 rfl ?_
  refine g_iload_n (i := 1) (by decide +kernel) rfl ?_
  refine g_iald (by decide +kernel) (by omega) hS.a2 rfl (by omega) (by decide) ?_
  refine g_iload_n (i := 3) (by decide +kernel) rfl ?_
  refine g_cSI (st := [vi (t : Int), vr G (b + 2)]) (c_Sh_renumbered (x := σ (b + 2) f) (p := w) (N := N) hN h2) k_Sh_renumbered l_Sh_86 (by decide +kernel) rfl (by rw [zs_other (by omega)]; rfl) (Nat.le_of_ble_eq_true rfl) (by decide) ⟨by decide, by decide⟩ ?_
  rintro a σ1 ⟨rfl, hσ⟩
  obtain rfl := hσ.symm
  refine g_iast (by decide +kernel) (by omega) hS.a2 rfl (by omega) (by decide) ?_
  refine g_aload_n (i := 0) (by decide +kernel) rfl ?_
  refine g_getr f_Sh_18 (by decide +kernel) (by omega) hS.a0 rfl ?_
  refine g_iload_n (i := 2) (by decide +kernel) rfl ?_
  refine g_aload_n (i := 0) (by decide +kernel) rfl ?_
  refine g_getr f_Sh_18 (by decide +kernel) (by omega) hS.a0 rfl ?_
  refine g_iload_n (i := 1) (by decide +kernel) rfl ?_
  refine g_iald (by decide +kernel) (by omega) hS.a3 rfl (by omega) (by decide) ?_
  refine g_iast (by decide +kernel) (by omega) hS.a3 rfl (by omega) (by decide) ?_
  refine g_aload_n (i := 0) (by decide +kernel) rfl ?_
  refine g_iload_n (i := 2) (by decide +kernel) rfl ?_
  refine g_aload_n (i := 0) (by decide +kernel) rfl ?_
  refine g_getr f_Sh_21 (by decide +kernel) (by omega) hS.a0 rfl ?_
  refine g_iload_n (i := 1) (by decide +kernel) rfl ?_
  refine g_iald (by decide +kernel) (by omega) hS.a4 rfl (by omega) (by decide) ?_
  refine g_aload_n (i := 0) (by decide +kernel) rfl ?_
  refine g_getr f_Sh_24 (by decide +kernel) (by omega) hS.a0 rfl ?_
  refine g_iload_n (i := 1) (by decide +kernel) rfl ?_
  refine g_iald (by decide +kernel) (by omega) hS.a5 rfl (by omega) (by decide) ?_
  refine g_iload_n (i := 3) (by decide +kernel) rfl ?_
  refine g_cSI (st := [vi ((zs (zs (zs σ (b + 1) t (σ (b + 1) f)) (b + 2) t (zren w (σ (b + 2) f))) (b + 3) t (σ (b + 3) f)) (b + 4) f), vi (t : Int), vr G b]) (c_Sh_renumbered (x := σ (b + 5) f) (p := w) (N := N) hN h5) k_Sh_renumbered l_Sh_86 (by decide +kernel) rfl (by simp [zs_app, zren]) (Nat.le_of_ble_eq_true rfl) (by decide) ⟨by decide, by decide⟩ ?_
  rintro a σ1 ⟨rfl, hσ⟩
  obtain rfl := hσ.symm
  refine g_aload_n (i := 0) (by decide +kernel) rfl ?_
  refine g_getr f_Sh_27 (by decide +kernel) (by omega) hS.a0 rfl ?_
  refine g_iload_n (i := 1) (by decide +kernel) rfl ?_
  refine g_iald (by decide +kernel) (by omega) hS.a6 rfl (by omega) (by decide) ?_
  refine g_cVV (st := []) (c_Sh_putStart hn hS ht) k_Sh_putStart l_Sh_69 (by decide +kernel) (by omega) hS.a0 rfl rfl rfl (Nat.le_of_ble_eq_true rfl) (by decide) ⟨by decide, by decide⟩ ?_
  rintro σ1 hσ
  obtain rfl := hσ.symm
  refine g_aload_n (i := 0) (by decide +kernel) rfl ?_
  refine g_getr f_Sh_30 (by decide +kernel) (by omega) hS.a0 rfl ?_
  refine g_iload_n (i := 1) (by decide +kernel) rfl ?_
  refine g_bipush (a := 9) (by decide +kernel) (by decide) ?_
  refine g_imul (by decide +kernel) ?_
  refine g_aload_n (i := 0) (by decide +kernel) rfl ?_
  refine g_getr f_Sh_30 (by decide +kernel) (by omega) hS.a0 rfl ?_
  refine g_iload_n (i := 2) (by decide +kernel) rfl ?_
  refine g_bipush (a := 9) (by decide +kernel) (by decide) ?_
  refine g_imul (by decide +kernel) ?_
  refine g_bipush (a := 9) (by decide +kernel) (by decide) ?_
  refine g_copy (sp := 9 * f) (dp := 9 * t) (c := 9) ac_l (by decide +kernel) (by omega) (by omega) hS.a7 hS.a7 (by omega) (by omega) rfl (by omega) (by omega) ⟨by decide, by decide⟩ (by decide) (by decide) ?_
  refine g_retV (by decide +kernel) rfl ⟨by decide, by decide⟩ ?_
  refine ⟨?_, ?_, ?_, ?_, ?_, ?_, fun j => ?_, fun a ha => ?_⟩
  · rw [zcp_other (by omega)]; simp [zs_app, zren]
  · rw [zcp_other (by omega)]; simp [zs_app, zren]
  · rw [zcp_other (by omega)]; simp [zs_app, zren]
  · rw [zcp_other (by omega)]; simp [zs_app, zren]
  · rw [zcp_other (by omega)]; simp [zs_app, zren]
  · rw [zcp_other (by omega)]; simp [zs_app, zren]
  · rw [zcp_app, if_pos rfl]
    simp [zs_app]
  · rw [zcp_other (by omega), zs_other (by omega), zs_other (by omega), zs_other (by omega), zs_other (by omega), zs_other (by omega), zs_other (by omega)]
/-- the places behind one that goes -/
def zpl (σ : zSt) (b k : Nat) (j : Nat) : Int := if σ (b + 2) j = σ (b + 2) k ∧ σ (b + 3) k < σ (b + 3) j then σ (b + 3) j - 1 else σ (b + 3) j
/-- a clip and all within it are gone -/
def zDrop (σ σ' : zSt) (b k : Nat) : Prop :=
  (∀ i, i < (σ b 0).toNat → zwi (σ (b + 2)) k 12 i = false → (let t := zcnt (fun j => !(zwi (σ (b + 2)) k 12 j)) i
    σ' (b + 1) t = σ (b + 1) i ∧ σ' (b + 2) t = zren (fun j => zwi (σ (b + 2)) k 12 j) (σ (b + 2) i) ∧ σ' (b + 3) t = zpl σ b k i ∧ σ' (b + 4) t = σ (b + 4) i ∧ σ' (b + 5) t = zren (fun j => zwi (σ (b + 2)) k 12 j) (σ (b + 5) i) ∧ σ' (b + 6) t = σ (b + 6) i ∧ ∀ u, u < 9 → σ' (b + 7) (9 * t + u) = σ (b + 7) (9 * i + u))) ∧
  (∀ j, zcnt (fun j => !(zwi (σ (b + 2)) k 12 j)) (σ b 0).toNat ≤ j → σ' (b + 1) j = σ (b + 1) j ∧ σ' (b + 2) j = σ (b + 2) j ∧ σ' (b + 3) j = (if j < (σ b 0).toNat then zpl σ b k j else σ (b + 3) j) ∧ σ' (b + 4) j = σ (b + 4) j ∧ σ' (b + 5) j = σ (b + 5) j ∧ σ' (b + 6) j = σ (b + 6) j ∧ ∀ u, u < 9 → σ' (b + 7) (9 * j + u) = σ (b + 7) (9 * j + u)) ∧
  σ' b = zu (σ b) 0 (zcnt (fun j => !(zwi (σ (b + 2)) k 12 j)) (σ b 0).toNat : Int) ∧ ∀ a, (a < b ∨ b + 8 ≤ a) → σ' a = σ a
theorem zcnt_lt {p : Nat → Bool} {q : Nat} : ∀ {i : Nat}, q < i → p q = true → zcnt p q < zcnt p i
  | 0, h, _ => by omega
  | i + 1, h, hp => by
    have e : zcnt p (i + 1) = zcnt p i + (if p i = true then 1 else 0) := rfl
    rcases Nat.lt_or_ge q i with z | z
    · have := zcnt_lt z hp
      rw [e]; omega
    · have ez : q = i := by omega
      subst ez
      rw [e, if_pos hp]; omega
theorem zren_in {w : Nat → Bool} {x : Int} (h : -1 ≤ x ∧ x ≤ 11) : -1 ≤ zren w x ∧ zren w x ≤ 11 := by
  unfold zren
  have := zcnt_le w x.toNat
  split <;> omega
theorem zDrop_step1 {σ τ σ1 : zSt} {b k i : Nat} (t1 : ∀ q, q < i → zwi (σ (b + 2)) k 12 q = false → (let t := zcnt (fun j => !(zwi (σ (b + 2)) k 12 j)) q
    τ (b + 1) t = σ (b + 1) q ∧ τ (b + 2) t = zren (fun j => zwi (σ (b + 2)) k 12 j) (σ (b + 2) q) ∧ τ (b + 3) t = zpl σ b k q ∧ τ (b + 4) t = σ (b + 4) q ∧ τ (b + 5) t = zren (fun j => zwi (σ (b + 2)) k 12 j) (σ (b + 5) q) ∧ τ (b + 6) t = σ (b + 6) q ∧ ∀ u, u < 9 → τ (b + 7) (9 * t + u) = σ (b + 7) (9 * q + u)))
    {N : Nat} (t2 : ∀ j, zcnt (fun j => !(zwi (σ (b + 2)) k 12 j)) i ≤ j → τ (b + 1) j = σ (b + 1) j ∧ τ (b + 2) j = σ (b + 2) j ∧ τ (b + 3) j = (if j < N then zpl σ b k j else σ (b + 3) j) ∧ τ (b + 4) j = σ (b + 4) j ∧ τ (b + 5) j = σ (b + 5) j ∧ τ (b + 6) j = σ (b + 6) j ∧ ∀ u, u < 9 → τ (b + 7) (9 * j + u) = σ (b + 7) (9 * j + u))
    (hw : zwi (σ (b + 2)) k 12 i = false) (g2 : τ (b + 1) i = σ (b + 1) i ∧ τ (b + 2) i = σ (b + 2) i ∧ τ (b + 3) i = (if i < N then zpl σ b k i else σ (b + 3) i) ∧ τ (b + 4) i = σ (b + 4) i ∧ τ (b + 5) i = σ (b + 5) i ∧ τ (b + 6) i = σ (b + 6) i ∧ ∀ u, u < 9 → τ (b + 7) (9 * i + u) = σ (b + 7) (9 * i + u))
    (c1 : σ1 (b + 1) = zu (τ (b + 1)) (zcnt (fun j => !(zwi (σ (b + 2)) k 12 j)) i) (τ (b + 1) i)) (c2 : σ1 (b + 2) = zu (τ (b + 2)) (zcnt (fun j => !(zwi (σ (b + 2)) k 12 j)) i) (zren (fun j => zwi (σ (b + 2)) k 12 j) (τ (b + 2) i))) (c3 : σ1 (b + 3) = zu (τ (b + 3)) (zcnt (fun j => !(zwi (σ (b + 2)) k 12 j)) i) (τ (b + 3) i)) (c4 : σ1 (b + 4) = zu (τ (b + 4)) (zcnt (fun j => !(zwi (σ (b + 2)) k 12 j)) i) (τ (b + 4) i)) (c5 : σ1 (b + 5) = zu (τ (b + 5)) (zcnt (fun j => !(zwi (σ (b + 2)) k 12 j)) i) (zren (fun j => zwi (σ (b + 2)) k 12 j) (τ (b + 5) i))) (c6 : σ1 (b + 6) = zu (τ (b + 6)) (zcnt (fun j => !(zwi (σ (b + 2)) k 12 j)) i) (τ (b + 6) i))
    (c7 : ∀ j, σ1 (b + 7) j = if 9 * (zcnt (fun j => !(zwi (σ (b + 2)) k 12 j)) i) ≤ j ∧ j < 9 * (zcnt (fun j => !(zwi (σ (b + 2)) k 12 j)) i) + 9 then τ (b + 7) (9 * i + (j - 9 * (zcnt (fun j => !(zwi (σ (b + 2)) k 12 j)) i))) else τ (b + 7) j) (hN : i < N) :
    ∀ q, q < i + 1 → zwi (σ (b + 2)) k 12 q = false → (let t := zcnt (fun j => !(zwi (σ (b + 2)) k 12 j)) q
    σ1 (b + 1) t = σ (b + 1) q ∧ σ1 (b + 2) t = zren (fun j => zwi (σ (b + 2)) k 12 j) (σ (b + 2) q) ∧ σ1 (b + 3) t = zpl σ b k q ∧ σ1 (b + 4) t = σ (b + 4) q ∧ σ1 (b + 5) t = zren (fun j => zwi (σ (b + 2)) k 12 j) (σ (b + 5) q) ∧ σ1 (b + 6) t = σ (b + 6) q ∧ ∀ u, u < 9 → σ1 (b + 7) (9 * t + u) = σ (b + 7) (9 * q + u)) := by
  intro q hq hqw
  dsimp only
  obtain ⟨a1, a2, a3, a4, a5, a6, a7⟩ := g2
  rcases Nat.lt_or_ge q i with z | z
  · have hlt : zcnt (fun j => !(zwi (σ (b + 2)) k 12 j)) q < zcnt (fun j => !(zwi (σ (b + 2)) k 12 j)) i := zcnt_lt z (by simp [hqw])
    obtain ⟨b1, b2, b3, b4, b5, b6, b7⟩ := t1 q z hqw
    rw [c1, c2, c3, c4, c5, c6, zu_ne (by omega), zu_ne (by omega), zu_ne (by omega), zu_ne (by omega), zu_ne (by omega), zu_ne (by omega)]
    refine ⟨b1, b2, b3, b4, b5, b6, fun u hu => ?_⟩
    rw [c7, if_neg (by omega)]
    exact b7 u hu
  · have e : q = i := by omega
    subst e
    rw [c1, c2, c3, c4, c5, c6, zu_eq, zu_eq, zu_eq, zu_eq, zu_eq, zu_eq]
    refine ⟨a1, by rw [a2], by rw [a3, if_pos hN], a4, by rw [a5], a6, fun u hu => ?_⟩
    rw [c7, if_pos (by omega), show ∀ x, 9 * q + (9 * x + u - 9 * x) = 9 * q + u from fun x => by omega]
    exact a7 u hu
theorem zDrop_step2 {σ τ σ1 : zSt} {b k i N : Nat} (t2 : ∀ j, zcnt (fun j => !(zwi (σ (b + 2)) k 12 j)) i ≤ j → τ (b + 1) j = σ (b + 1) j ∧ τ (b + 2) j = σ (b + 2) j ∧ τ (b + 3) j = (if j < N then zpl σ b k j else σ (b + 3) j) ∧ τ (b + 4) j = σ (b + 4) j ∧ τ (b + 5) j = σ (b + 5) j ∧ τ (b + 6) j = σ (b + 6) j ∧ ∀ u, u < 9 → τ (b + 7) (9 * j + u) = σ (b + 7) (9 * j + u))
    (hw : zwi (σ (b + 2)) k 12 i = false) {v1 v2 v3 v4 v5 v6 : Int} (c1 : σ1 (b + 1) = zu (τ (b + 1)) (zcnt (fun j => !(zwi (σ (b + 2)) k 12 j)) i) v1) (c2 : σ1 (b + 2) = zu (τ (b + 2)) (zcnt (fun j => !(zwi (σ (b + 2)) k 12 j)) i) v2) (c3 : σ1 (b + 3) = zu (τ (b + 3)) (zcnt (fun j => !(zwi (σ (b + 2)) k 12 j)) i) v3) (c4 : σ1 (b + 4) = zu (τ (b + 4)) (zcnt (fun j => !(zwi (σ (b + 2)) k 12 j)) i) v4) (c5 : σ1 (b + 5) = zu (τ (b + 5)) (zcnt (fun j => !(zwi (σ (b + 2)) k 12 j)) i) v5) (c6 : σ1 (b + 6) = zu (τ (b + 6)) (zcnt (fun j => !(zwi (σ (b + 2)) k 12 j)) i) v6)
    {g : Nat → Int} (c7 : ∀ j, σ1 (b + 7) j = if 9 * (zcnt (fun j => !(zwi (σ (b + 2)) k 12 j)) i) ≤ j ∧ j < 9 * (zcnt (fun j => !(zwi (σ (b + 2)) k 12 j)) i) + 9 then g j else τ (b + 7) j) :
    ∀ j, zcnt (fun j => !(zwi (σ (b + 2)) k 12 j)) (i + 1) ≤ j → σ1 (b + 1) j = σ (b + 1) j ∧ σ1 (b + 2) j = σ (b + 2) j ∧ σ1 (b + 3) j = (if j < N then zpl σ b k j else σ (b + 3) j) ∧ σ1 (b + 4) j = σ (b + 4) j ∧ σ1 (b + 5) j = σ (b + 5) j ∧ σ1 (b + 6) j = σ (b + 6) j ∧ ∀ u, u < 9 → σ1 (b + 7) (9 * j + u) = σ (b + 7) (9 * j + u) := by
  intro j hj
  rw [zcnt_t (by simp [hw])] at hj
  obtain ⟨b1, b2, b3, b4, b5, b6, b7⟩ := t2 j (by omega)
  rw [c1, c2, c3, c4, c5, c6, zu_ne (by omega), zu_ne (by omega), zu_ne (by omega), zu_ne (by omega), zu_ne (by omega), zu_ne (by omega)]
  refine ⟨b1, b2, b3, b4, b5, b6, fun u hu => ?_⟩
  rw [c7, if_neg (by omega)]
  exact b7 u hu
theorem zCC_good {τ σ1 : zSt} {b f t : Nat} {v2 v5 : Int} (tg : zGood τ b) (hf : f < 12) (ht : t < 12) (c1 : σ1 (b + 1) = zu (τ (b + 1)) t (τ (b + 1) f)) (c2 : σ1 (b + 2) = zu (τ (b + 2)) t v2) (c3 : σ1 (b + 3) = zu (τ (b + 3)) t (τ (b + 3) f)) (c4 : σ1 (b + 4) = zu (τ (b + 4)) t (τ (b + 4) f)) (c5 : σ1 (b + 5) = zu (τ (b + 5)) t v5) (c6 : σ1 (b + 6) = zu (τ (b + 6)) t (τ (b + 6) f))
    (c7 : ∀ j, σ1 (b + 7) j = if 9 * t ≤ j ∧ j < 9 * t + 9 then τ (b + 7) (9 * f + (j - 9 * t)) else τ (b + 7) j) (c8 : ∀ a, (a ≤ b ∨ b + 8 ≤ a) → σ1 a = τ a) (h2 : -1 ≤ v2 ∧ v2 ≤ 11) (h5 : -1 ≤ v5 ∧ v5 ≤ 11) : zGood σ1 b := by
  obtain ⟨g1, g2, g3, g4⟩ := tg
  refine ⟨by rw [c8 b (by omega)]; exact g1, fun k hk => ?_, fun k hk => ?_, fun i hi => by rw [c8 (b + 8) (by omega), c8 (b + 9) (by omega)]; exact g4 i hi⟩
  · rw [c1, c2, c3, c4, c5, c6]
    by_cases e : k = t
    · subst e
      rw [zu_eq, zu_eq, zu_eq, zu_eq, zu_eq, zu_eq]
      have := g2 f hf
      exact ⟨this.1, h2, this.2.2.1, this.2.2.2.1, h5, this.2.2.2.2.2⟩
    · rw [zu_ne e, zu_ne e, zu_ne e, zu_ne e, zu_ne e, zu_ne e]
      exact g2 k hk
  · rw [c7]
    split
    · exact g3 _ (by omega)
    · exact g3 k hk
theorem w2_Sh_drop {G : zG} {X : zX} {n : Nat} {σ : zSt} {b : Nat} {k : Nat} (hn : 189 ≤ n) (hS : zSw SH b) (hg : zGood σ b) (ht : zTree σ b) (hk : k < (σ b 0).toNat) (ho : ∀ j, j < (σ b 0).toNat → σ (b + 5) j < σ b 0) : ∀ (m : Nat) (i : Nat) (x3 x4 : Int) (τ : zSt), x4 = (i : Int) → x3 = (zcnt (fun j => !(zwi (σ (b + 2)) k 12 j)) i : Int) → (∀ q, q < i → zwi (σ (b + 2)) k 12 q = false → (let t := zcnt (fun j => !(zwi (σ (b + 2)) k 12 j)) q
    τ (b + 1) t = σ (b + 1) q ∧ τ (b + 2) t = zren (fun j => zwi (σ (b + 2)) k 12 j) (σ (b + 2) q) ∧ τ (b + 3) t = zpl σ b k q ∧ τ (b + 4) t = σ (b + 4) q ∧ τ (b + 5) t = zren (fun j => zwi (σ (b + 2)) k 12 j) (σ (b + 5) q) ∧ τ (b + 6) t = σ (b + 6) q ∧ ∀ u, u < 9 → τ (b + 7) (9 * t + u) = σ (b + 7) (9 * q + u))) → (∀ j, zcnt (fun j => !(zwi (σ (b + 2)) k 12 j)) i ≤ j → τ (b + 1) j = σ (b + 1) j ∧ τ (b + 2) j = σ (b + 2) j ∧ τ (b + 3) j = (if j < (σ b 0).toNat then zpl σ b k j else σ (b + 3) j) ∧ τ (b + 4) j = σ (b + 4) j ∧ τ (b + 5) j = σ (b + 5) j ∧ τ (b + 6) j = σ (b + 6) j ∧ ∀ u, u < 9 → τ (b + 7) (9 * j + u) = σ (b + 7) (9 * j + u)) → zGood τ b → (∀ a, (a ≤ b ∨ b + 8 ≤ a) → τ a = σ a) → i ≤ (σ b 0).toNat → (σ b 0).toNat < i + m → Go G X m_Sh_drop (3, 0, 0, 0, 0) n SH τ 67 [(0, vr G b), (1, vi k), (2, vi ((zbits (fun j => zwi (σ (b + 2)) k 12 j) (σ b 0).toNat : Nat) : Int)), (3, vi x3), (4, vi x4)] [] (zV n SH (fun σ' => zDrop σ σ' b k)) := by
  intro m
  induction m with
  | zero => intro i x3 x4 τ e4 e3 t1 t2 tg t3 hi hm; exact absurd hm (by omega)
  | succ m ih =>
    intro i x3 x4 τ e4 e3 t1 t2 tg t3 hi hm
    have hb := hS.1
    have hc := hg.1
    subst e4 e3
    have s0 : τ b = σ b := t3 b (by omega)
    have s0c : τ b 0 = σ b 0 := by rw [s0]
    have hz := zcnt_le (fun j => !(zwi (σ (b + 2)) k 12 j)) i
    have hzb := zbits_le (p := (fun j => zwi (σ (b + 2)) k 12 j)) (show (σ b 0).toNat ≤ 12 by omega)
    refine g_iload (i := 4) (by decide +kernel) rfl ?_
    refine g_aload_n (i := 0) (by decide +kernel) rfl ?_
    refine g_geti f_Sh_39 (by decide +kernel) (by omega) hS.a0 rfl ?_
    refine g_icmp_ge (off := 29) (tgt := 102) (by decide +kernel) (by decide) ⟨by omega, by omega⟩ ⟨by omega, by omega⟩ (fun h73 => ?_) (fun h73 => ?_)
    · refine g_aload_n (i := 0) (by decide +kernel) rfl ?_
      refine g_iload_n (i := 3) (by decide +kernel) rfl ?_
      refine g_puti f_Sh_39 (by decide +kernel) (by omega) hS.a0 rfl ?_
      refine g_retV (by decide +kernel) rfl ⟨by decide, by decide⟩ ?_
      have en : i = (σ b 0).toNat := by omega
      subst en
      refine ⟨fun q hq hqw => ?_, fun j hj => ?_, ?_, fun a ha => ?_⟩
      · have := t1 q hq hqw
        simpa only [zs_other (show b + 1 ≠ b by omega), zs_other (show b + 2 ≠ b by omega), zs_other (show b + 3 ≠ b by omega), zs_other (show b + 4 ≠ b by omega), zs_other (show b + 5 ≠ b by omega), zs_other (show b + 6 ≠ b by omega), zs_other (show b + 7 ≠ b by omega)] using this
      · have := t2 j hj
        simpa only [zs_other (show b + 1 ≠ b by omega), zs_other (show b + 2 ≠ b by omega), zs_other (show b + 3 ≠ b by omega), zs_other (show b + 4 ≠ b by omega), zs_other (show b + 5 ≠ b by omega), zs_other (show b + 6 ≠ b by omega), zs_other (show b + 7 ≠ b by omega)] using this
      · rw [zs_row, s0]
      · rw [zs_other (by omega)]; exact t3 a (by omega)
    · have hk2 := hg.2.1 i (by omega)
      have hq2 : zbits (fun j => zwi (σ (b + 2)) k 12 j) (σ b 0).toNat / 2 ^ i < 4096 := Nat.lt_of_le_of_lt (Nat.div_le_self _ _) hzb
      refine g_iload_n (i := 2) (by decide +kernel) rfl ?_
      refine g_iload (i := 4) (by decide +kernel) rfl ?_
      refine g_ishr (by decide +kernel) (by omega) (by omega) ?_
      refine g_iconst (a := 1) (by decide +kernel) ?_
      refine g_iand (by decide +kernel) (y := 1) (by omega) (by omega) ?_
      refine g_if_ne (off := 14) (tgt := 96) (by decide +kernel) (by decide) ⟨by omega, by rw [zbits_bit]; split <;> decide⟩ (fun h82 => ?_) (fun h82 => ?_)
      · have hw : zwi (σ (b + 2)) k 12 i = true := by
          cases hx : zwi (σ (b + 2)) k 12 i with
          | true => rfl
          | false => exact absurd (by rw [zbits_bit, if_neg (by rw [hx]; simp)]; rfl) h82
        refine g_iinc (i := 4) (b := 1) (L' := [(0, _), (1, _), (2, _), (3, _), (4, _)]) (by decide +kernel) rfl rfl rfl ?_
        refine g_goto (off := -32) (tgt := 67) (by decide +kernel) (by decide) ?_
        first
          | exact ih (i + 1) _ _ _ (by omega) (by rw [zcnt_f (by simp [hw])]) (fun q hq hqw => t1 q (by
              rcases Nat.lt_or_ge q i with z | z
              · exact z
              · rw [show q = i by omega, hw] at hqw; cases hqw) hqw) (by rw [zcnt_f (by simp [hw])]; exact t2) tg t3 (by omega) (by omega)
          | exact ih (i + 1) _ _ _ (by omega) (by rw [zcnt_t (by simp [hw])]; push_cast; rfl) (zDrop_step1 t1 t2 hw g2 c1 c2 c3 c4 c5 c6 c7 (by omega)) (zDrop_step2 t2 hw c1 c2 c3 c4 c5 c6 c7) (zCC_good tg (by omega) (by omega) c1 c2 c3 c4 c5 c6 c7 c8 (zren_in (by rw [g2.2.1]; omega)) (zren_in (by rw [g2.2.2.2.2.1]; omega))) (fun a ha => by rw [c8 a ha]; exact t3 a ha) (by omega) (by omega)
      · have hw : zwi (σ (b + 2)) k 12 i = false := by
          cases hx : zwi (σ (b + 2)) k 12 i with
          | false => rfl
          | true => exact absurd h82 (by rw [zbits_bit, if_pos (by rw [hx, decide_eq_true (show i < (σ b 0).toNat by omega)]; rfl)]; decide)
        have g2 := t2 i hz
        have hti := ht i (by omega)
        have hoi := ho i (by omega)
        refine g_aload_n (i := 0) (by decide +kernel) rfl ?_
        refine g_iload (i := 4) (by decide +kernel) rfl ?_
        refine g_iload_n (i := 3) (by decide +kernel) rfl ?_
        refine g_iload_n (i := 2) (by decide +kernel) rfl ?_
        refine g_cVV (st := []) (c_Sh_copyClip (f := i) (t := zcnt (fun j => !(zwi (σ (b + 2)) k 12 j)) i) (N := (σ b 0).toNat) (w := (fun j => zwi (σ (b + 2)) k 12 j)) hn hS tg (by omega) (by omega) (by omega) (by rw [g2.2.1]; omega) (by rw [g2.2.2.2.2.1]; omega)) k_Sh_copyClip l_Sh_83 (by decide +kernel) (by omega) hS.a0 rfl rfl rfl (Nat.le_of_ble_eq_true rfl) (by decide) ⟨by decide, by decide⟩ ?_
        rintro σ1 ⟨c1, c2, c3, c4, c5, c6, c7, c8⟩
        refine g_iinc (i := 3) (b := 1) (L' := [(0, _), (1, _), (2, _), (3, _), (4, _)]) (by decide +kernel) rfl rfl rfl ?_
        refine g_iinc (i := 4) (b := 1) (L' := [(0, _), (1, _), (2, _), (3, _), (4, _)]) (by decide +kernel) rfl rfl rfl ?_
        refine g_goto (off := -32) (tgt := 67) (by decide +kernel) (by decide) ?_
        first
          | exact ih (i + 1) _ _ _ (by omega) (by rw [zcnt_f (by simp [hw])]) (fun q hq hqw => t1 q (by
              rcases Nat.lt_or_ge q i with z | z
              · exact z
              · rw [show q = i by omega, hw] at hqw; cases hqw) hqw) (by rw [zcnt_f (by simp [hw])]; exact t2) tg t3 (by omega) (by omega)
          | exact ih (i + 1) _ _ _ (by omega) (by rw [zcnt_t (by simp [hw])]; push_cast; rfl) (zDrop_step1 t1 t2 hw g2 c1 c2 c3 c4 c5 c6 c7 (by omega)) (zDrop_step2 t2 hw c1 c2 c3 c4 c5 c6 c7) (zCC_good tg (by omega) (by omega) c1 c2 c3 c4 c5 c6 c7 c8 (zren_in (by rw [g2.2.1]; omega)) (zren_in (by rw [g2.2.2.2.2.1]; omega))) (fun a ha => by rw [c8 a ha]; exact t3 a ha) (by omega) (by omega)
theorem w1_Sh_drop {G : zG} {X : zX} {n : Nat} {σ : zSt} {b : Nat} {k : Nat} (hn : 189 ≤ n) (hS : zSw SH b) (hg : zGood σ b) (ht : zTree σ b) (hk : k < (σ b 0).toNat) (ho : ∀ j, j < (σ b 0).toNat → σ (b + 5) j < σ b 0) : ∀ (m : Nat) (i : Nat) (x3 : Int) (τ : zSt), x3 = (i : Int) → (∀ a, a ≠ b + 3 → τ a = σ a) → (∀ j, j < i → τ (b + 3) j = zpl σ b k j) → (∀ j, i ≤ j → τ (b + 3) j = σ (b + 3) j) → i ≤ (σ b 0).toNat → (σ b 0).toNat < i + m → Go G X m_Sh_drop (3, 0, 0, 0, 0) n SH τ 8 [(0, vr G b), (1, vi k), (2, vi ((zbits (fun j => zwi (σ (b + 2)) k 12 j) (σ b 0).toNat : Nat) : Int)), (3, vi x3)] [] (zV n SH (fun σ' => zDrop σ σ' b k)) := by
  intro m
  induction m with
  | zero => intro i x3 τ e3 t0 t1 t2 hi hm; exact absurd hm (by omega)
  | succ m ih =>
    intro i x3 τ e3 t0 t1 t2 hi hm
    have hb := hS.1
    have hc := hg.1
    subst e3
    have s0 : τ b 0 = σ b 0 := by rw [t0 _ (by omega)]
    have s1 : ∀ j, τ (b + 2) j = σ (b + 2) j := fun j => by rw [t0 _ (by omega)]
    have s2 := s1 i
    have s3 := s1 k
    have s4 := t2 i (Nat.le_refl i)
    have hkk := hg.2.1 k (by omega)
    have s5 : τ (b + 3) k = σ (b + 3) k := by
      rcases Nat.lt_or_ge k i with z | z
      · rw [t1 k z]; unfold zpl; rw [if_neg (by omega)]
      · exact t2 k z
    refine g_iload_n (i := 3) (by decide +kernel) rfl ?_
    refine g_aload_n (i := 0) (by decide +kernel) rfl ?_
    refine g_geti f_Sh_39 (by decide +kernel) (by omega) hS.a0 rfl ?_
    refine g_icmp_ge (off := 49) (tgt := 62) (by decide +kernel) (by decide) ⟨by omega, by omega⟩ ⟨by omega, by omega⟩ (fun h13 => ?_) (fun h13 => ?_)
    · refine g_iconst (a := 0) (by decide +kernel) ?_
      refine g_istore_n (i := 3) (L' := [(0, _), (1, _), (2, _), (3, _)]) (by decide +kernel) rfl rfl ?_
      refine g_iconst (a := 0) (by decide +kernel) ?_
      refine g_istore (i := 4) (L' := [(0, _), (1, _), (2, _), (3, _), (4, _)]) (by decide +kernel) rfl rfl ?_
      refine w2_Sh_drop hn hS hg ht hk ho 13 0 _ _ τ rfl rfl (fun q hq => by omega) (fun j _ => ?_) ?_ (fun a ha => t0 a (by omega)) (by omega) (by omega)
      · rw [t0 (b + 1) (by omega), t0 (b + 2) (by omega), t0 (b + 4) (by omega), t0 (b + 5) (by omega), t0 (b + 6) (by omega), t0 (b + 7) (by omega)]
        refine ⟨rfl, rfl, ?_, rfl, rfl, rfl, fun _ _ => rfl⟩
        split
        · exact t1 j (by omega)
        · exact t2 j (by omega)
      · obtain ⟨g1, g2, g3, g4⟩ := hg
        refine ⟨by rw [t0 b (by omega)]; exact g1, fun q hq => ?_, by rw [t0 (b + 7) (by omega)]; exact g3, by rw [t0 (b + 8) (by omega), t0 (b + 9) (by omega)]; exact g4⟩
        have z := g2 q hq
        rw [t0 (b + 1) (by omega), t0 (b + 2) (by omega), t0 (b + 4) (by omega), t0 (b + 5) (by omega), t0 (b + 6) (by omega)]
        refine ⟨z.1, z.2.1, ?_, z.2.2.2⟩
        rcases Nat.lt_or_ge q i with y | y
        · rw [t1 q y]; unfold zpl; split <;> omega
        · rw [t2 q y]; exact z.2.2.1
    · have hk2 := hg.2.1 i (by omega)
      refine g_aload_n (i := 0) (by decide +kernel) rfl ?_
      refine g_getr f_Sh_15 (by decide +kernel) (by omega) hS.a0 rfl ?_
      refine g_iload_n (i := 3) (by decide +kernel) rfl ?_
      refine g_iald (j := i) (by decide +kernel) (by omega) hS.a2 rfl (by omega) (by decide) ?_
      refine g_aload_n (i := 0) (by decide +kernel) rfl ?_
      refine g_getr f_Sh_15 (by decide +kernel) (by omega) hS.a0 rfl ?_
      refine g_iload_n (i := 1) (by decide +kernel) rfl ?_
      refine g_iald (j := k) (by decide +kernel) (by omega) hS.a2 rfl (by omega) (by decide) ?_
      refine g_icmp_ne (off := 28) (tgt := 56) (by decide +kernel) (by decide) ⟨by omega, by omega⟩ ⟨by omega, by omega⟩ (fun h28 => ?_) (fun h28 => ?_)
      · refine g_iinc (i := 3) (b := 1) (L' := [(0, _), (1, _), (2, _), (3, _)]) (by decide +kernel) rfl rfl rfl ?_
        refine g_goto (off := -51) (tgt := 8) (by decide +kernel) (by decide) ?_
        refine ih (i + 1) _ _ (by omega) (fun a ha => by first | exact t0 a ha | (rw [zs_other ha]; exact t0 a ha)) (fun j hj => ?_) (fun j hj => ?_) (by omega) (by omega)
        · rcases Nat.lt_or_ge j i with q | q
          · have := t1 j q
            simpa [zs_app, zu_app, show ¬ j = i by omega] using this
          · have e : j = i := by omega
            subst e
            try simp only [zs_app, zu_app, if_true]
            unfold zpl
            split <;> omega
        · have := t2 j (by omega)
          simpa [zs_app, zu_app, show ¬ j = i by omega] using this
      · refine g_aload_n (i := 0) (by decide +kernel) rfl ?_
        refine g_getr f_Sh_18 (by decide +kernel) (by omega) hS.a0 rfl ?_
        refine g_iload_n (i := 3) (by decide +kernel) rfl ?_
        refine g_iald (j := i) (by decide +kernel) (by omega) hS.a3 rfl (by omega) (by decide) ?_
        refine g_aload_n (i := 0) (by decide +kernel) rfl ?_
        refine g_getr f_Sh_18 (by decide +kernel) (by omega) hS.a0 rfl ?_
        refine g_iload_n (i := 1) (by decide +kernel) rfl ?_
        refine g_iald (j := k) (by decide +kernel) (by omega) hS.a3 rfl (by omega) (by decide) ?_
        refine g_icmp_le (off := 13) (tgt := 56) (by decide +kernel) (by decide) ⟨by omega, by omega⟩ ⟨by omega, by omega⟩ (fun h43 => ?_) (fun h43 => ?_)
        · refine g_iinc (i := 3) (b := 1) (L' := [(0, _), (1, _), (2, _), (3, _)]) (by decide +kernel) rfl rfl rfl ?_
          refine g_goto (off := -51) (tgt := 8) (by decide +kernel) (by decide) ?_
          refine ih (i + 1) _ _ (by omega) (fun a ha => by first | exact t0 a ha | (rw [zs_other ha]; exact t0 a ha)) (fun j hj => ?_) (fun j hj => ?_) (by omega) (by omega)
          · rcases Nat.lt_or_ge j i with q | q
            · have := t1 j q
              simpa [zs_app, zu_app, show ¬ j = i by omega] using this
            · have e : j = i := by omega
              subst e
              try simp only [zs_app, zu_app, if_true]
              unfold zpl
              split <;> omega
          · have := t2 j (by omega)
            simpa [zs_app, zu_app, show ¬ j = i by omega] using this
        · refine g_aload_n (i := 0) (by decide +kernel) rfl ?_
          refine g_getr f_Sh_18 (by decide +kernel) (by omega) hS.a0 rfl ?_
          refine g_iload_n (i := 3) (by decide +kernel) rfl ?_
          refine g_dup2 (by decide +kernel) rfl rfl ?_
          refine g_iald (j := i) (by decide +kernel) (by omega) hS.a3 rfl (by omega) (by decide) ?_
          refine g_iconst (a := 1) (by decide +kernel) ?_
          refine g_isub (by decide +kernel) ?_
          refine g_iast (j := i) (by decide +kernel) (by omega) hS.a3 rfl (by omega) (by decide) ?_
          refine g_iinc (i := 3) (b := 1) (L' := [(0, _), (1, _), (2, _), (3, _)]) (by decide +kernel) rfl rfl rfl ?_
          refine g_goto (off := -51) (tgt := 8) (by decide +kernel) (by decide) ?_
          refine ih (i + 1) _ _ (by omega) (fun a ha => by first | exact t0 a ha | (rw [zs_other ha]; exact t0 a ha)) (fun j hj => ?_) (fun j hj => ?_) (by omega) (by omega)
          · rcases Nat.lt_or_ge j i with q | q
            · have := t1 j q
              simpa [zs_app, zu_app, show ¬ j = i by omega] using this
            · have e : j = i := by omega
              subst e
              try simp only [zs_app, zu_app, if_true]
              unfold zpl
              split <;> omega
          · have := t2 j (by omega)
            simpa [zs_app, zu_app, show ¬ j = i by omega] using this
theorem c_Sh_drop {G : zG} {n : Nat} {σ : zSt} {b : Nat} {k : Nat} (hn : 189 ≤ n) (hS : zSw SH b) (hg : zGood σ b) (ht : zTree σ b) (hk : k < (σ b 0).toNat) (ho : ∀ j, j < (σ b 0).toNat → σ (b + 5) j < σ b 0) : Gm G y_Sh_drop m_Sh_drop 3 0 0 [vr G b, vi k] n SH σ (zV n SH (fun σ' => zDrop σ σ' b k)) := by
  refine g_enter (L := [(0, _), (1, _)]) (by decide) rfl rfl rfl (Nat.le_of_ble_eq_true rfl) (fun X => ?_)
  have hb := hS.1
  have hc := hg.1
  refine g_aload_n (i := 0) (by decide +kernel) rfl ?_
  refine g_iload_n (i := 1) (by decide +kernel) rfl ?_
  refine g_cVI (st := []) (c_Sh_bitsWithin hn hS hg ht hk) k_Sh_bitsWithin l_Sh_80 (by decide +kernel) (by omega) hS.a0 rfl rfl rfl (Nat.le_of_ble_eq_true rfl) (by decide) ⟨by decide, by decide⟩ ?_
  rintro a σ1 ⟨rfl, hσ⟩
  obtain rfl := hσ.symm
  refine g_istore_n (i := 2) (L' := [(0, _), (1, _), (2, _)]) (by decide +kernel) rfl rfl ?_
  refine g_iconst (a := 0) (by decide +kernel) ?_
  refine g_istore_n (i := 3) (L' := [(0, _), (1, _), (2, _), (3, _)]) (by decide +kernel) rfl rfl ?_
  exact w1_Sh_drop hn hS hg ht hk ho 13 0 _ σ rfl (fun _ _ => rfl) (fun j hj => by omega) (fun j _ => rfl) (by omega) (by omega)
end
section
/-! MOMENTS (b 0 time, b 1 dark; b+1 state, b+2 place in it, b+3 pass, b+4 begin, b+5 since its begin, b+6 strength, b+7 share), the tape -/
theorem c_Mo_clear {G : zG} {n : Nat} {σ : zSt} {b : Nat} {k : Nat} (hn : 189 ≤ n) (hM : zMo SH b) (hk : k < 12) : Gm G y_Mo_clear m_Mo_clear 0 0 0 [vr G b, vi k] n SH σ (zV n SH (fun σ' => σ' = zs (zs (zs (zs (zs (zs σ (b + 1) k 0) (b + 2) k (-1)) (b + 3) k (-1)) (b + 4) k (-1)) (b + 5) k 0) (b + 7) k 0)) := by
  refine g_enter (L := [(0, _), (1, _)]) (by decide) rfl rfl rfl (Nat.le_of_ble_eq_true rfl) (fun X => ?_)
  have hb := hM.1
  refine g_aload_n (i := 0) (by decide +kernel) rfl ?_
  refine g_getr f_Mo_18 (by decide +kernel) (by omega) hM.a0 rfl ?_
  refine g_iload_n (i := 1) (by decide +kernel) rfl ?_
  refine g_iconst (a := 0) (by decide +kernel) ?_
  refine g_iast (by decide +kernel) (by omega) hM.a1 rfl (by omega) (by decide) ?_
  refine g_aload_n (i := 0) (by decide +kernel) rfl ?_
  refine g_getr f_Mo_22 (by decide +kernel) (by omega) hM.a0 rfl ?_
  refine g_iload_n (i := 1) (by decide +kernel) rfl ?_
  refine g_iconst (a := -1) (by decide +kernel) ?_
  refine g_iast (by decide +kernel) (by omega) hM.a2 rfl (by omega) (by decide) ?_
  refine g_aload_n (i := 0) (by decide +kernel) rfl ?_
  refine g_getr f_Mo_25 (by decide +kernel) (by omega) hM.a0 rfl ?_
  refine g_iload_n (i := 1) (by decide +kernel) rfl ?_
  refine g_iconst (a := -1) (by decide +kernel) ?_
  refine g_iast (by decide +kernel) (by omega) hM.a3 rfl (by omega) (by decide) ?_
  refine g_aload_n (i := 0) (by decide +kernel) rfl ?_
  refine g_getr f_Mo_28 (by decide +kernel) (by omega) hM.a0 rfl ?_
  refine g_iload_n (i := 1) (by decide +kernel) rfl ?_
  refine g_iconst (a := -1) (by decide +kernel) ?_
  refine g_iast (by decide +kernel) (by omega) hM.a4 rfl (by omega) (by decide) ?_
  refine g_aload_n (i := 0) (by decide +kernel) rfl ?_
  refine g_getr f_Mo_31 (by decide +kernel) (by omega) hM.a0 rfl ?_
  refine g_iload_n (i := 1) (by decide +kernel) rfl ?_
  refine g_iconst (a := 0) (by decide +kernel) ?_
  refine g_iast (by decide +kernel) (by omega) hM.a5 rfl (by omega) (by decide) ?_
  refine g_aload_n (i := 0) (by decide +kernel) rfl ?_
  refine g_getr f_Mo_37 (by decide +kernel) (by omega) hM.a0 rfl ?_
  refine g_iload_n (i := 1) (by decide +kernel) rfl ?_
  refine g_iconst (a := 0) (by decide +kernel) ?_
  refine g_iast (by decide +kernel) (by omega) hM.a7 rfl (by omega) (by decide) ?_
  refine g_retV (by decide +kernel) rfl ⟨by decide, by decide⟩ ?_
  exact rfl
theorem c_Mo_runs {G : zG} {n : Nat} {σ : zSt} {b : Nat} {k : Nat} (hn : 189 ≤ n) (hM : zMo SH b) (hk : k < 12) (hs : 0 ≤ σ (b + 1) k ∧ σ (b + 1) k ≤ 4) : Gm G y_Mo_runs m_Mo_runs 0 0 0 [vr G b, vi k] n SH σ (zI n SH (fun a σ' => a = (if σ (b + 1) k = 2 ∨ σ (b + 1) k = 3 then 1 else 0) ∧ σ' = σ)) := by
  refine g_enter (L := [(0, _), (1, _)]) (by decide) rfl rfl rfl (Nat.le_of_ble_eq_true rfl) (fun X => ?_)
  have hb := hM.1
  refine g_aload_n (i := 0) (by decide +kernel) rfl ?_
  refine g_getr f_Mo_18 (by decide +kernel) (by omega) hM.a0 rfl ?_
  refine g_iload_n (i := 1) (by decide +kernel) rfl ?_
  refine g_iald (by decide +kernel) (by omega) hM.a1 rfl (by omega) (by decide) ?_
  refine g_iconst (a := 2) (by decide +kernel) ?_
  refine g_icmp_eq (off := 13) (tgt := 20) (by decide +kernel) (by decide) ⟨by omega, by omega⟩ ⟨by omega, by omega⟩ (fun h7 => ?_) (fun h7 => ?_)
  · refine g_iconst (a := 1) (by decide +kernel) ?_
    refine g_goto (off := 4) (tgt := 25) (by decide +kernel) (by decide) ?_
    refine g_retI (by decide +kernel) rfl (Or.inr ⟨rfl, by omega⟩) ⟨by decide, by decide⟩ ?_
    exact ⟨by split <;> omega, rfl⟩
  · refine g_aload_n (i := 0) (by decide +kernel) rfl ?_
    refine g_getr f_Mo_18 (by decide +kernel) (by omega) hM.a0 rfl ?_
    refine g_iload_n (i := 1) (by decide +kernel) rfl ?_
    refine g_iald (by decide +kernel) (by omega) hM.a1 rfl (by omega) (by decide) ?_
    refine g_iconst (a := 3) (by decide +kernel) ?_
    refine g_icmp_ne (off := 7) (tgt := 24) (by decide +kernel) (by decide) ⟨by omega, by omega⟩ ⟨by omega, by omega⟩ (fun h17 => ?_) (fun h17 => ?_)
    · refine g_iconst (a := 0) (by decide +kernel) ?_
      refine g_retI (by decide +kernel) rfl (Or.inr ⟨rfl, by omega⟩) ⟨by decide, by decide⟩ ?_
      exact ⟨by split <;> omega, rfl⟩
    · refine g_iconst (a := 1) (by decide +kernel) ?_
      refine g_goto (off := 4) (tgt := 25) (by decide +kernel) (by decide) ?_
      refine g_retI (by decide +kernel) rfl (Or.inr ⟨rfl, by omega⟩) ⟨by decide, by decide⟩ ?_
      exact ⟨by split <;> omega, rfl⟩
theorem c_Mo_playedLocal {G : zG} {n : Nat} {σ : zSt} {b : Nat} {k : Nat} (hn : 189 ≤ n) (hM : zMo SH b) (hk : k < 12) (hs : 0 ≤ σ (b + 1) k ∧ σ (b + 1) k ≤ 4) : Gm G y_Mo_playedLocal m_Mo_playedLocal 0 0 0 [vr G b, vi k] n SH σ (zI n SH (fun a σ' => a = (if σ (b + 1) k = 2 then σ (b + 2) k else -1) ∧ σ' = σ)) := by
  refine g_enter (L := [(0, _), (1, _)]) (by decide) rfl rfl rfl (Nat.le_of_ble_eq_true rfl) (fun X => ?_)
  have hb := hM.1
  refine g_aload_n (i := 0) (by decide +kernel) rfl ?_
  refine g_getr f_Mo_18 (by decide +kernel) (by omega) hM.a0 rfl ?_
  refine g_iload_n (i := 1) (by decide +kernel) rfl ?_
  refine g_iald (by decide +kernel) (by omega) hM.a1 rfl (by omega) (by decide) ?_
  refine g_iconst (a := 2) (by decide +kernel) ?_
  refine g_icmp_ne (off := 12) (tgt := 19) (by decide +kernel) (by decide) ⟨by omega, by omega⟩ ⟨by omega, by omega⟩ (fun h7 => ?_) (fun h7 => ?_)
  · refine g_iconst (a := -1) (by decide +kernel) ?_
    refine g_retI (by decide +kernel) rfl (Or.inl rfl) ⟨by decide, by decide⟩ ?_
    exact ⟨by first | rw [if_pos h7] | rw [if_neg h7], rfl⟩
  · refine g_aload_n (i := 0) (by decide +kernel) rfl ?_
    refine g_getr f_Mo_22 (by decide +kernel) (by omega) hM.a0 rfl ?_
    refine g_iload_n (i := 1) (by decide +kernel) rfl ?_
    refine g_iald (by decide +kernel) (by omega) hM.a2 rfl (by omega) (by decide) ?_
    refine g_goto (off := 4) (tgt := 20) (by decide +kernel) (by decide) ?_
    refine g_retI (by decide +kernel) rfl (Or.inl rfl) ⟨by decide, by decide⟩ ?_
    exact ⟨by first | rw [if_pos h7] | rw [if_neg h7], rfl⟩
theorem w_Mo_bitsOf {G : zG} {X : zX} {n : Nat} {σ : zSt} {b : Nat} {N : Nat} {x : Int} (hn : 189 ≤ n) (hM : zMo SH b) (hst : ∀ k, k < 12 → 0 ≤ σ (b + 1) k ∧ σ (b + 1) k ≤ 4) (hN : N ≤ 12) (hx : zr x) : ∀ (m : Nat) (i : Nat) (x3 x4 : Int), x4 = (i : Int) → x3 = (zbits (fun j => decide (σ (b + 1) j = x)) i : Int) → i ≤ N → N < i + m → Go G X m_Mo_bitsOf (0, 0, 0, 0, 0) n SH σ 5 [(0, vr G b), (1, vi x), (2, vi (N : Int)), (3, vi x3), (4, vi x4)] [] (zI n SH (fun a σ' => a = (zbits (fun j => decide (σ (b + 1) j = x)) N : Int) ∧ σ' = σ)) := by
  intro m
  induction m with
  | zero => intro i x3 x4 e4 e3 hi hm; exact absurd hm (by omega)
  | succ m ih =>
    intro i x3 x4 e4 e3 hi hm
    have hb := hM.1
    subst e4 e3
    have hz := zbits_le (p := (fun j => decide (σ (b + 1) j = x))) (show i ≤ 12 by omega)
    refine g_iload (i := 4) (by decide +kernel) rfl ?_
    refine g_iload_n (i := 2) (by decide +kernel) rfl ?_
    refine g_icmp_ge (off := 27) (tgt := 35) (by decide +kernel) (by decide) ⟨by omega, by omega⟩ ⟨by omega, by omega⟩ (fun h8 => ?_) (fun h8 => ?_)
    · refine g_iload_n (i := 3) (by decide +kernel) rfl ?_
      refine g_retI (by decide +kernel) rfl (Or.inl rfl) ⟨by decide, by decide⟩ ?_
      exact ⟨by rw [show i = N by omega], rfl⟩
    · have hk2 := hst i (by omega)
      have hp : 2 ^ i < 4096 := Nat.pow_lt_pow_right (by decide) (show i < 12 by omega)
      refine g_aload_n (i := 0) (by decide +kernel) rfl ?_
      refine g_getr f_Mo_18 (by decide +kernel) (by omega) hM.a0 rfl ?_
      refine g_iload (i := 4) (by decide +kernel) rfl ?_
      refine g_iald (j := i) (by decide +kernel) (by omega) hM.a1 rfl (by omega) (by decide) ?_
      refine g_iload_n (i := 1) (by decide +kernel) rfl ?_
      refine g_icmp_ne (off := 10) (tgt := 29) (by decide +kernel) (by decide) ⟨by omega, by omega⟩ ⟨by omega, by omega⟩ (fun h19 => ?_) (fun h19 => ?_)
      · refine g_iinc (i := 4) (b := 1) (L' := [(0, _), (1, _), (2, _), (3, _), (4, _)]) (by decide +kernel) rfl rfl rfl ?_
        refine g_goto (off := -27) (tgt := 5) (by decide +kernel) (by decide) ?_
        exact ih (i + 1) _ _ (by omega) (by first | rw [zbits_t (by simpa using h19)] | rw [zbits_f (by simpa using h19)]) (by omega) (by omega)
      · refine g_iload_n (i := 3) (by decide +kernel) rfl ?_
        refine g_iconst (a := 1) (by decide +kernel) ?_
        refine g_iload (i := 4) (by decide +kernel) rfl ?_
        refine g_ishl1 (by decide +kernel) (by omega) ?_
        refine g_ior (by decide +kernel) (by omega) (by omega) ?_
        refine g_istore_n (i := 3) (L' := [(0, _), (1, _), (2, _), (3, _), (4, _)]) (by decide +kernel) rfl rfl ?_
        refine g_iinc (i := 4) (b := 1) (L' := [(0, _), (1, _), (2, _), (3, _), (4, _)]) (by decide +kernel) rfl rfl rfl ?_
        refine g_goto (off := -27) (tgt := 5) (by decide +kernel) (by decide) ?_
        exact ih (i + 1) _ _ (by omega) (by first | rw [zbits_t (by simpa using h19)] | rw [zbits_f (by simpa using h19)]) (by omega) (by omega)
theorem c_Mo_bitsOf {G : zG} {n : Nat} {σ : zSt} {b : Nat} {N : Nat} {x : Int} (hn : 189 ≤ n) (hM : zMo SH b) (hst : ∀ k, k < 12 → 0 ≤ σ (b + 1) k ∧ σ (b + 1) k ≤ 4) (hN : N ≤ 12) (hx : zr x) : Gm G y_Mo_bitsOf m_Mo_bitsOf 0 0 0 [vr G b, vi x, vi (N : Int)] n SH σ (zI n SH (fun a σ' => a = (zbits (fun j => decide (σ (b + 1) j = x)) N : Int) ∧ σ' = σ)) := by
  refine g_enter (L := [(0, _), (1, _), (2, _)]) (by decide) rfl rfl rfl (Nat.le_of_ble_eq_true rfl) (fun X => ?_)
  refine g_iconst (a := 0) (by decide +kernel) ?_
  refine g_istore_n (i := 3) (L' := [(0, _), (1, _), (2, _), (3, _)]) (by decide +kernel) rfl rfl ?_
  refine g_iconst (a := 0) (by decide +kernel) ?_
  refine g_istore (i := 4) (L' := [(0, _), (1, _), (2, _), (3, _), (4, _)]) (by decide +kernel) rfl rfl ?_
  exact w_Mo_bitsOf hn hM hst hN hx (N + 1) 0 _ _ rfl rfl (by omega) (by omega)
theorem w_Mo_bitsOfSeen {G : zG} {X : zX} {n : Nat} {σ : zSt} {b : Nat} {N : Nat} (hn : 189 ≤ n) (hM : zMo SH b) (hsh : ∀ k, k < 12 → zr (σ (b + 7) k)) (hN : N ≤ 12) : ∀ (m : Nat) (i : Nat) (x2 x3 : Int), x3 = (i : Int) → x2 = (zbits (fun j => decide (0 < σ (b + 7) j)) i : Int) → i ≤ N → N < i + m → Go G X m_Mo_bitsOfSeen (0, 0, 0, 0, 0) n SH σ 4 [(0, vr G b), (1, vi (N : Int)), (2, vi x2), (3, vi x3)] [] (zI n SH (fun a σ' => a = (zbits (fun j => decide (0 < σ (b + 7) j)) N : Int) ∧ σ' = σ)) := by
  intro m
  induction m with
  | zero => intro i x2 x3 e4 e3 hi hm; exact absurd hm (by omega)
  | succ m ih =>
    intro i x2 x3 e4 e3 hi hm
    have hb := hM.1
    subst e4 e3
    have hz := zbits_le (p := (fun j => decide (0 < σ (b + 7) j))) (show i ≤ 12 by omega)
    refine g_iload_n (i := 3) (by decide +kernel) rfl ?_
    refine g_iload_n (i := 1) (by decide +kernel) rfl ?_
    refine g_icmp_ge (off := 24) (tgt := 30) (by decide +kernel) (by decide) ⟨by omega, by omega⟩ ⟨by omega, by omega⟩ (fun h6 => ?_) (fun h6 => ?_)
    · refine g_iload_n (i := 2) (by decide +kernel) rfl ?_
      refine g_retI (by decide +kernel) rfl (Or.inl rfl) ⟨by decide, by decide⟩ ?_
      exact ⟨by rw [show i = N by omega], rfl⟩
    · have hk2 := hsh i (by omega)
      have hp : 2 ^ i < 4096 := Nat.pow_lt_pow_right (by decide) (show i < 12 by omega)
      refine g_aload_n (i := 0) (by decide +kernel) rfl ?_
      refine g_getr f_Mo_37 (by decide +kernel) (by omega) hM.a0 rfl ?_
      refine g_iload_n (i := 3) (by decide +kernel) rfl ?_
      refine g_iald (j := i) (by decide +kernel) (by omega) hM.a7 rfl (by omega) (by decide) ?_
      refine g_if_le (off := 9) (tgt := 24) (by decide +kernel) (by decide) ⟨by omega, by omega⟩ (fun h15 => ?_) (fun h15 => ?_)
      · refine g_iinc (i := 3) (b := 1) (L' := [(0, _), (1, _), (2, _), (3, _)]) (by decide +kernel) rfl rfl rfl ?_
        refine g_goto (off := -23) (tgt := 4) (by decide +kernel) (by decide) ?_
        exact ih (i + 1) _ _ (by omega) (by first | rw [zbits_t (by simpa using h15)] | rw [zbits_f (by simpa using h15)]) (by omega) (by omega)
      · refine g_iload_n (i := 2) (by decide +kernel) rfl ?_
        refine g_iconst (a := 1) (by decide +kernel) ?_
        refine g_iload_n (i := 3) (by decide +kernel) rfl ?_
        refine g_ishl1 (by decide +kernel) (by omega) ?_
        refine g_ior (by decide +kernel) (by omega) (by omega) ?_
        refine g_istore_n (i := 2) (L' := [(0, _), (1, _), (2, _), (3, _)]) (by decide +kernel) rfl rfl ?_
        refine g_iinc (i := 3) (b := 1) (L' := [(0, _), (1, _), (2, _), (3, _)]) (by decide +kernel) rfl rfl rfl ?_
        refine g_goto (off := -23) (tgt := 4) (by decide +kernel) (by decide) ?_
        exact ih (i + 1) _ _ (by omega) (by first | rw [zbits_t (by simpa using h15)] | rw [zbits_f (by simpa using h15)]) (by omega) (by omega)
theorem c_Mo_bitsOfSeen {G : zG} {n : Nat} {σ : zSt} {b : Nat} {N : Nat} (hn : 189 ≤ n) (hM : zMo SH b) (hsh : ∀ k, k < 12 → zr (σ (b + 7) k)) (hN : N ≤ 12) : Gm G y_Mo_bitsOfSeen m_Mo_bitsOfSeen 0 0 0 [vr G b, vi (N : Int)] n SH σ (zI n SH (fun a σ' => a = (zbits (fun j => decide (0 < σ (b + 7) j)) N : Int) ∧ σ' = σ)) := by
  refine g_enter (L := [(0, _), (1, _)]) (by decide) rfl rfl rfl (Nat.le_of_ble_eq_true rfl) (fun X => ?_)
  refine g_iconst (a := 0) (by decide +kernel) ?_
  refine g_istore_n (i := 2) (L' := [(0, _), (1, _), (2, _)]) (by decide +kernel) rfl rfl ?_
  refine g_iconst (a := 0) (by decide +kernel) ?_
  refine g_istore_n (i := 3) (L' := [(0, _), (1, _), (2, _), (3, _)]) (by decide +kernel) rfl rfl ?_
  exact w_Mo_bitsOfSeen hn hM hsh hN (N + 1) 0 _ _ rfl rfl (by omega) (by omega)
/-- all states in one number -/
def zall (f : Nat → Int) : Nat → Int
  | 0 => 0
  | n + 1 => zall f n * 8 + f n
theorem w_Mo_allStates {G : zG} {X : zX} {n : Nat} {σ : zSt} {b : Nat} {N : Nat} (hn : 189 ≤ n) (hM : zMo SH b) (hst : ∀ k, k < 12 → 0 ≤ σ (b + 1) k ∧ σ (b + 1) k ≤ 4) (hN : N ≤ 12) : ∀ (m : Nat) (i : Nat) (x2 x4 : Int), x4 = (i : Int) → x2 = zall (σ (b + 1)) i → i ≤ N → N < i + m → Go G X m_Mo_allStates (0, 0, 0, 0, 0) n SH σ 5 [(0, vr G b), (1, vi (N : Int)), (2, vl x2), (4, vi x4)] [] (zL n SH (fun a σ' => a = zall (σ (b + 1)) N ∧ σ' = σ)) := by
  intro m
  induction m with
  | zero => intro i x2 x4 e4 e3 hi hm; exact absurd hm (by omega)
  | succ m ih =>
    intro i x2 x4 e4 e3 hi hm
    have hb := hM.1
    subst e4 e3
    refine g_iload (i := 4) (by decide +kernel) rfl ?_
    refine g_iload_n (i := 1) (by decide +kernel) rfl ?_
    refine g_icmp_ge (off := 24) (tgt := 32) (by decide +kernel) (by decide) ⟨by omega, by omega⟩ ⟨by omega, by omega⟩ (fun h8 => ?_) (fun h8 => ?_)
    · refine g_lload_n (i := 2) (by decide +kernel) rfl ?_
      refine g_retL (by decide +kernel) rfl ⟨by decide, by decide⟩ ?_
      exact ⟨by rw [show i = N by omega], rfl⟩
    · have hk2 := hst i (by omega)
      refine g_lload_n (i := 2) (by decide +kernel) rfl ?_
      refine g_ldc2 (x := 40) (a := 8) (by decide +kernel) c_Mo_40 (by decide) ?_
      refine g_lmul (by decide +kernel) ?_
      refine g_aload_n (i := 0) (by decide +kernel) rfl ?_
      refine g_getr f_Mo_18 (by decide +kernel) (by omega) hM.a0 rfl ?_
      refine g_iload (i := 4) (by decide +kernel) rfl ?_
      refine g_iald (j := i) (by decide +kernel) (by omega) hM.a1 rfl (by omega) (by decide) ?_
      refine g_i2l (by decide +kernel) ⟨by omega, by omega⟩ ?_
      refine g_ladd (by decide +kernel) ?_
      refine g_lstore_n (i := 2) (L' := [(0, _), (1, _), (2, _), (4, _)]) (by decide +kernel) rfl rfl ?_
      refine g_iinc (i := 4) (b := 1) (L' := [(0, _), (1, _), (2, _), (4, _)]) (by decide +kernel) rfl rfl rfl ?_
      refine g_goto (off := -24) (tgt := 5) (by decide +kernel) (by decide) ?_
      exact ih (i + 1) _ _ (by omega) rfl (by omega) (by omega)
theorem c_Mo_allStates {G : zG} {n : Nat} {σ : zSt} {b : Nat} {N : Nat} (hn : 189 ≤ n) (hM : zMo SH b) (hst : ∀ k, k < 12 → 0 ≤ σ (b + 1) k ∧ σ (b + 1) k ≤ 4) (hN : N ≤ 12) : Gm G y_Mo_allStates m_Mo_allStates 0 0 0 [vr G b, vi (N : Int)] n SH σ (zL n SH (fun a σ' => a = zall (σ (b + 1)) N ∧ σ' = σ)) := by
  refine g_enter (L := [(0, _), (1, _)]) (by decide) rfl rfl rfl (Nat.le_of_ble_eq_true rfl) (fun X => ?_)
  refine g_lconst (c := 0) (a := 0) (by decide +kernel) (by decide) ?_
  refine g_lstore_n (i := 2) (L' := [(0, _), (1, _), (2, _)]) (by decide +kernel) rfl rfl ?_
  refine g_iconst (a := 0) (by decide +kernel) ?_
  refine g_istore (i := 4) (L' := [(0, _), (1, _), (2, _), (4, _)]) (by decide +kernel) rfl rfl ?_
  exact w_Mo_allStates hn hM hst hN (N + 1) 0 _ _ rfl rfl (by omega) (by omega)
theorem zi_shrI {a : Int} {i : Nat} (ha : zr a) (h : i < 31) : Int32.ofInt a >>> (Int32.ofInt (i : Int) &&& 31) = Int32.ofInt (a / 2 ^ i) := by
  have h1 : ∀ i : Nat, i < 31 → ((Int32.ofInt (i : Int) &&& 31).toBitVec.smod 32).toNat = i := by decide
  rw [← Int32.toInt_inj, pk_shr _ _ i (h1 i h), zi_toInt ha, Int.shiftRight_eq_div_pow]
  have hp : (0 : Int) < 2 ^ i := Int.pow_pos (by decide)
  have h2 : (1 : Int) ≤ 2 ^ i := hp
  have hb : zr (a / 2 ^ i) := by
    constructor
    · apply Int.le_ediv_of_mul_le hp
      have : (-2147483648 : Int) * 2 ^ i ≤ -2147483648 * 1 := Int.mul_le_mul_of_nonpos_left (by decide) h2
      omega
    · apply Int.ediv_le_of_le_mul hp
      have : (2147483647 : Int) * 1 ≤ 2147483647 * 2 ^ i := Int.mul_le_mul_of_nonneg_left h2 (by decide)
      omega
  rw [zi_toInt hb]
  norm_cast
theorem zi_and255 (a : Int) : Int32.ofInt a &&& Int32.ofInt 255 = Int32.ofInt (a % 256) := by
  rw [pk_and (Int32.ofInt a) (m := Int32.ofInt 255) 8 (by decide), show a % 256 = (((a % 256).toNat : Nat) : Int) by omega, zi_nat, Int32.toBitVec_ofInt, BitVec.toNat_ofInt]
  congr 1
  omega
section GO
variable {G : zG} {X : zX} {M : zM} {κ : zK} {n : Nat} {sh : Nat → zSh} {σ : zSt} {pc : Nat} {L L' : List (Nat × Value)} {st : List Value} {post : zPost}
theorem g_ishrI {a : Int} {i : Nat} (hd : decode M.1 pc = .ok (.ishr, 1)) (ha : zr a) (hi : i < 31) (k : Go G X M κ n sh σ (pc + 1) L (vi (a / 2 ^ i) :: st) post) : Go G X M κ n sh σ pc L (vi (i : Int) :: vi a :: st) post := fun C H locs ls h1 h2 h3 h4 => lv_ishr C.1 C.2.1 hd (by rw [zi_shrI ha hi]; exact k C H locs ls h1 h2 h3 h4)
theorem g_and255 {a : Int} (hd : decode M.1 pc = .ok (.iand, 1)) (k : Go G X M κ n sh σ (pc + 1) L (vi (a % 256) :: st) post) : Go G X M κ n sh σ pc L (vi 255 :: vi a :: st) post := fun C H locs ls h1 h2 h3 h4 => lv_iand C.1 C.2.1 hd (by rw [zi_and255]; exact k C H locs ls h1 h2 h3 h4)
end GO
/-- the i-th of the four bytes of a number -/
def zbyte (x : Int) (i : Nat) : Int := x / 2 ^ (24 - 8 * i) % 256
def zTape (σ σ' : zSt) (x : Int) (c : Nat) : Prop := σ' 177 = zu (σ 177) 1 (σ 177 1 + c) ∧ (∀ j, j < c → σ' 178 ((σ 177 1).toNat + j) = zbyte x j) ∧ (∀ j, (j < (σ 177 1).toNat ∨ (σ 177 1).toNat + c ≤ j) → σ' 178 j = σ 178 j) ∧ ∀ a, a ≠ 177 → a ≠ 178 → σ' a = σ a
theorem w_Ta_putInt {G : zG} {X : zX} {n : Nat} {σ : zSt} {x : Int} (hn : 189 ≤ n) (hx : zr x) (hl : 0 ≤ σ 177 1 ∧ σ 177 1 + 4 ≤ 600) : ∀ (m : Nat) (i : Nat) (x2 : Int) (τ : zSt), x2 = 24 - 8 * (i : Int) → zTape σ τ x i → i ≤ 4 → 4 < i + m → Go G X m_Ta_putInt (0, 0, 0, 0, 0) n SH τ 3 [(0, vr G 177), (1, vi x), (2, vi x2)] [] (zV n SH (fun σ' => zTape σ σ' x 4)) := by
  intro m
  induction m with
  | zero => intro i x2 τ e2 ht hi hm; exact absurd hm (by omega)
  | succ m ih =>
    intro i x2 τ e2 ht hi hm
    obtain ⟨t1, t2, t3, t4⟩ := id ht
    have s1 : τ 177 1 = σ 177 1 + i := by rw [t1, zu_eq]
    refine g_iload_n (i := 2) (by decide +kernel) rfl ?_
    refine g_if_lt (off := 35) (tgt := 39) (by decide +kernel) (by decide) ⟨by omega, by omega⟩ (fun h4 => ?_) (fun h4 => ?_)
    · refine g_retV (by decide +kernel) rfl ⟨by decide, by decide⟩ ?_
      rw [show i = 4 by omega] at ht
      exact ht
    · refine g_aload_n (i := 0) (by decide +kernel) rfl ?_
      refine g_getr f_Ta_9 (by decide +kernel) (by omega) rfl rfl ?_
      refine g_aload_n (i := 0) (by decide +kernel) rfl ?_
      refine g_geti f_Ta_15 (by decide +kernel) (by omega) rfl rfl ?_
      refine g_iload_n (i := 1) (by decide +kernel) rfl ?_
      refine g_iload_n (i := 2) (by decide +kernel) rfl ?_
      refine g_eq (st' := [vi ((24 - 8 * i : Nat) : Int), vi x, vi (τ 177 1), vr G 178]) ?_ rfl rfl (by rw [show ((24 - 8 * i : Nat) : Int) = x2 by omega])
      refine g_ishrI (by decide +kernel) hx (by omega) ?_
      refine g_sipush (a := 255) (by decide +kernel) (by decide) ?_
      refine g_and255 (by decide +kernel) ?_
      refine g_iast (j := (σ 177 1).toNat + i) (by decide +kernel) (by omega) rfl (by omega) (by omega) (by decide) ?_
      refine g_aload_n (i := 0) (by decide +kernel) rfl ?_
      refine g_dup (by decide +kernel) rfl ?_
      refine g_geti f_Ta_15 (by decide +kernel) (by omega) rfl rfl ?_
      refine g_iconst (a := 1) (by decide +kernel) ?_
      refine g_iadd (by decide +kernel) ?_
      refine g_puti f_Ta_15 (by decide +kernel) (by omega) rfl rfl ?_
      refine g_iinc (i := 2) (b := -8) (L' := [(0, _), (1, _), (2, _)]) (by decide +kernel) rfl rfl rfl ?_
      refine g_goto (off := -33) (tgt := 3) (by decide +kernel) (by decide) ?_
      refine ih (i + 1) _ _ (by omega) ⟨?_, fun j hj => ?_, fun j hj => ?_, fun a h1 h2 => ?_⟩ (by omega) (by omega)
      · simp only [zs_app, if_true]
        simp only [show ¬ (177 : Nat) = 178 by decide, if_false, s1, t1]
        funext j
        simp only [zu_app]
        split
        · push_cast; omega
        · rfl
      · rcases Nat.lt_or_ge j i with q | q
        · have := t2 j q
          simpa [zs_app, zu_app, show ¬ (σ 177 1).toNat + j = (σ 177 1).toNat + i by omega, show ¬ j = i by omega] using this
        · have e : j = i := by omega
          subst e
          simp [zs_app, zu_app, zbyte]
      · have := t3 j (by omega)
        simpa [zs_app, zu_app, show ¬ j = (σ 177 1).toNat + i by omega] using this
      · rw [zs_other h1, zs_other h2]; exact t4 a h1 h2
theorem c_Ta_putInt {G : zG} {n : Nat} {σ : zSt} {x : Int} (hn : 189 ≤ n) (hx : zr x) (hl : 0 ≤ σ 177 1 ∧ σ 177 1 + 4 ≤ 600) : Gm G y_Ta_putInt m_Ta_putInt 0 0 0 [vr G 177, vi x] n SH σ (zV n SH (fun σ' => zTape σ σ' x 4)) := by
  refine g_enter (L := [(0, _), (1, _)]) (by decide) rfl rfl rfl (Nat.le_of_ble_eq_true rfl) (fun X => ?_)
  refine g_bipush (a := 24) (by decide +kernel) (by decide) ?_
  refine g_istore_n (i := 2) (L' := [(0, _), (1, _), (2, _)]) (by decide +kernel) rfl rfl ?_
  exact w_Ta_putInt hn hx hl 5 0 _ σ (by omega) ⟨by funext j; rw [zu_app]; split <;> simp_all, fun j hj => by omega, fun j _ => rfl, fun a _ _ => rfl⟩ (by omega) (by omega)
end
section
/-! HOW LONG THE CLIPS ARE: a Show S (S 0 0 clips, S 0 8 presses; S 1 kind, S 2 around, S 3 place, S 4 how, S 5 other, S 6 much, S 7 marks, S 8 keys, S 9 times) -/
def zSv (σ : zSt) (b : Nat) : zSt := fun r => σ (b + r)
def zN (S : zSt) : Nat := (S 0 0).toNat
/-- the clip at place p within q, or -1 -/
def zch (S : zSt) (q p : Int) : Int := zfst (fun j => decide (S 2 j = q ∧ S 3 j = p)) (zN S)
/-- one behind the other within q: the end of those at places below p -/
def zEn (S : zSt) (ac : Nat → Int) (q : Nat) : Nat → Int
  | 0 => 0
  | p + 1 => if zch S q p = -1 then zEn S ac q p else zEn S ac q p + S 6 (zch S q p).toNat + ac (zch S q p).toNat
theorem zEn_s (S : zSt) (ac : Nat → Int) (q p : Nat) : zEn S ac q (p + 1) = if zch S q p = -1 then zEn S ac q p else zEn S ac q p + S 6 (zch S q p).toNat + ac (zch S q p).toNat := rfl
/-- by whom it starts at last -/
def zBs (S : zSt) : Nat → Nat → Nat
  | 0, k => k
  | f + 1, k => if zby (S 4 k) = true then zBs S f (S 5 k).toNat else k
theorem zBs_s (S : zSt) (f k : Nat) : zBs S (f + 1) k = if zby (S 4 k) = true then zBs S f (S 5 k).toNat else k := rfl
/-- the way by others, in so many steps: what lies between -/
def zBw (S : zSt) (ac : Nat → Int) : Nat → Nat → Int
  | 0, _ => 0
  | f + 1, k => if zby (S 4 k) = true then S 6 k + (if S 4 k = 2 then ac (S 5 k).toNat else 0) + zBw S ac f (S 5 k).toNat else 0
theorem zBw_s (S : zSt) (ac : Nat → Int) (f k : Nat) : zBw S ac (f + 1) k = if zby (S 4 k) = true then S 6 k + (if S 4 k = 2 then ac (S 5 k).toNat else 0) + zBw S ac f (S 5 k).toNat else 0 := rfl
def zOp (S : zSt) (k : Nat) : Bool := decide (S 4 (zBs S 12 k) = 3)
/-- where it begins within what is at once -/
def zBg (S : zSt) (ac : Nat → Int) (k : Nat) : Int := zBw S ac 12 k + (if zOp S k = true then 0 else S 6 (zBs S 12 k))
/-- the greatest end of those below i within q that aren't open -/
def zMx (S : zSt) (ac : Nat → Int) (q : Nat) : Nat → Int
  | 0 => 0
  | i + 1 => if q < i ∧ S 2 i = q ∧ zOp S i = false then max (zMx S ac q i) (zBg S ac i + ac i) else zMx S ac q i
theorem zMx_s (S : zSt) (ac : Nat → Int) (q i : Nat) : zMx S ac q (i + 1) = if q < i ∧ S 2 i = q ∧ zOp S i = false then max (zMx S ac q i) (zBg S ac i + ac i) else zMx S ac q i := rfl
def zSi (S : zSt) (ac : Nat → Int) (k : Nat) : Int := if 0 < S 7 (9 * k) then S 7 (9 * k) else if S 1 k = 0 then 10 else if S 1 k = 2 then zEn S ac k 12 else zMx S ac k (zN S)
def zAcW (S : zSt) (si : Int) (k : Nat) : Int := (si * S 7 (9 * k + 2) + S 7 (9 * k + 1) - 1) / S 7 (9 * k + 1)
def zAc (S : zSt) (si : Int) (k : Nat) : Int := if 0 < S 7 (9 * k + 3) ∧ S 7 (9 * k + 3) < zAcW S si k then S 7 (9 * k + 3) else zAcW S si k
/-- where a clip begins within what is around it -/
def zBe (S : zSt) (ac : Nat → Int) (k : Nat) : Int := if S 2 k = -1 then S 6 k else if S 1 (S 2 k).toNat = 2 then zEn S ac (S 2 k).toNat (S 3 k).toNat + S 6 k else zBg S ac k
def zOk (S : zSt) (k : Nat) : Bool := if S 2 k = -1 then false else if S 1 (S 2 k).toNat = 2 then false else zOp S k
/-- THE LAYOUT of a Show: lengths that fit each other -/
def zLay (S : zSt) (si ac : Nat → Int) : Prop := ∀ k, k < zN S → si k = zSi S ac k ∧ ac k = zAc S (si k) k
end
section
theorem w_La_howManyOpen {G : zG} {X : zX} {n : Nat} {σ : zSt} {c N : Nat} (hn : 189 ≤ n) (hL : zLa SH c) (hN : N ≤ 12) (ho : ∀ k, k < 12 → σ (c + 5) k = 0 ∨ σ (c + 5) k = 1) : ∀ (m : Nat) (i : Nat) (x2 x3 : Int), x3 = (i : Int) → x2 = (zcnt (fun j => decide (σ (c + 5) j ≠ 0)) i : Int) → i ≤ N → N < i + m → Go G X m_La_howManyOpen (0, 0, 0, 0, 0) n SH σ 4 [(0, vr G c), (1, vi (N : Int)), (2, vi x2), (3, vi x3)] [] (zI n SH (fun a σ' => a = (zcnt (fun j => decide (σ (c + 5) j ≠ 0)) N : Int) ∧ σ' = σ)) := by
  intro m
  induction m with
  | zero => intro i x2 x3 e3 e2 hi hm; exact absurd hm (by omega)
  | succ m ih =>
    intro i x2 x3 e3 e2 hi hm
    have hcc := hL.1
    subst e3 e2
    refine g_iload_n (i := 3) (by decide +kernel) rfl ?_
    refine g_iload_n (i := 1) (by decide +kernel) rfl ?_
    refine g_icmp_ge (off := 21) (tgt := 27) (by decide +kernel) (by decide) ⟨by omega, by omega⟩ ⟨by omega, by omega⟩ (fun h6 => ?_) (fun h6 => ?_)
    · refine g_iload_n (i := 2) (by decide +kernel) rfl ?_
      refine g_retI (by decide +kernel) rfl (Or.inl rfl) ⟨by decide, by decide⟩ ?_
      exact ⟨by rw [show i = N by omega], rfl⟩
    · have hoi := ho i (by omega)
      refine g_aload_n (i := 0) (by decide +kernel) rfl ?_
      refine g_getr f_La_24 (by decide +kernel) (by omega) hL.a0 rfl ?_
      refine g_iload_n (i := 3) (by decide +kernel) rfl ?_
      refine g_zald (j := i) (by decide +kernel) (by omega) hL.a5 rfl (by omega) (by decide) ?_
      refine g_if_eq (off := 6) (tgt := 21) (by decide +kernel) (by decide) ⟨by omega, by omega⟩ (fun h15 => ?_) (fun h15 => ?_)
      · refine g_iinc (i := 3) (b := 1) (L' := [(0, _), (1, _), (2, _), (3, _)]) (by decide +kernel) rfl rfl rfl ?_
        refine g_goto (off := -20) (tgt := 4) (by decide +kernel) (by decide) ?_
        exact ih (i + 1) _ _ (by omega) (by first | (rw [zcnt_t (by simpa using h15)]; push_cast; rfl) | (rw [zcnt_f (by simpa using h15)])) (by omega) (by omega)
      · refine g_iinc (i := 2) (b := 1) (L' := [(0, _), (1, _), (2, _), (3, _)]) (by decide +kernel) rfl rfl rfl ?_
        refine g_iinc (i := 3) (b := 1) (L' := [(0, _), (1, _), (2, _), (3, _)]) (by decide +kernel) rfl rfl rfl ?_
        refine g_goto (off := -20) (tgt := 4) (by decide +kernel) (by decide) ?_
        exact ih (i + 1) _ _ (by omega) (by first | (rw [zcnt_t (by simpa using h15)]; push_cast; rfl) | (rw [zcnt_f (by simpa using h15)])) (by omega) (by omega)
theorem c_La_howManyOpen {G : zG} {n : Nat} {σ : zSt} {c N : Nat} (hn : 189 ≤ n) (hL : zLa SH c) (hN : N ≤ 12) (ho : ∀ k, k < 12 → σ (c + 5) k = 0 ∨ σ (c + 5) k = 1) : Gm G y_La_howManyOpen m_La_howManyOpen 0 0 0 [vr G c, vi (N : Int)] n SH σ (zI n SH (fun a σ' => a = (zcnt (fun j => decide (σ (c + 5) j ≠ 0)) N : Int) ∧ σ' = σ)) := by
  refine g_enter (L := [(0, _), (1, _)]) (by decide) rfl rfl rfl (Nat.le_of_ble_eq_true rfl) (fun X => ?_)
  refine g_iconst (a := 0) (by decide +kernel) ?_
  refine g_istore_n (i := 2) (L' := [(0, _), (1, _), (2, _)]) (by decide +kernel) rfl rfl ?_
  refine g_iconst (a := 0) (by decide +kernel) ?_
  refine g_istore_n (i := 3) (L' := [(0, _), (1, _), (2, _), (3, _)]) (by decide +kernel) rfl rfl ?_
  exact w_La_howManyOpen hn hL hN ho (N + 1) 0 _ _ rfl rfl (by omega) (by omega)
theorem c_La_activeOf {G : zG} {n : Nat} {σ : zSt} {b c : Nat} {k : Nat} (hn : 189 ≤ n) (hL : zLa SH c) (hS : zSw SH b) (hg : zGood σ b) (hbc : c + 6 ≤ b ∨ b + 10 ≤ c) (hk : k < 12) (hr : 1 ≤ σ (b + 7) (9 * k + 1)) (h0 : 0 ≤ σ (c + 1) k * σ (b + 7) (9 * k + 2)) (h1 : σ (c + 1) k * σ (b + 7) (9 * k + 2) ≤ 2000000000) : Gm G y_La_activeOf m_La_activeOf 1 0 0 [vr G c, vr G b, vi k] n SH σ (zI n SH (fun a σ' => a = zAc (zSv σ b) (σ (c + 1) k) k ∧ σ' = σ)) := by
  refine g_enter (L := [(0, _), (1, _), (2, _)]) (by decide) rfl rfl rfl (Nat.le_of_ble_eq_true rfl) (fun X => ?_)
  have hb := hS.1
  have hcc := hL.1
  have hc := hg.1
  have m1 := hg.2.2.1 (9 * k + 1) (by omega)
  have m3 := hg.2.2.1 (9 * k + 3) (by omega)
  have hw : 0 ≤ (σ (c + 1) k * σ (b + 7) (9 * k + 2) + σ (b + 7) (9 * k + 1) - 1) / σ (b + 7) (9 * k + 1) ∧ (σ (c + 1) k * σ (b + 7) (9 * k + 2) + σ (b + 7) (9 * k + 1) - 1) / σ (b + 7) (9 * k + 1) ≤ 2000001000 := ⟨Int.ediv_nonneg (by omega) (by omega), Int.le_trans (Int.ediv_le_self _ (by omega)) (by omega)⟩
  refine g_aload_n (i := 1) (by decide +kernel) rfl ?_
  refine g_iload_n (i := 2) (by decide +kernel) rfl ?_
  refine g_iconst (a := 1) (by decide +kernel) ?_
  refine g_cVI (st := []) (c_Sh_markOf (k := k) (w := 1) hn hS hk (by decide)) k_Sh_markOf l_La_47 (by decide +kernel) (by omega) hS.a0 rfl rfl rfl (Nat.le_of_ble_eq_true rfl) (by decide) ⟨by decide, by decide⟩ ?_
  rintro a σ1 ⟨rfl, hσ⟩
  obtain rfl := hσ.symm
  refine g_istore_n (i := 3) (L' := [(0, _), (1, _), (2, _), (3, _)]) (by decide +kernel) rfl rfl ?_
  refine g_aload_n (i := 1) (by decide +kernel) rfl ?_
  refine g_iload_n (i := 2) (by decide +kernel) rfl ?_
  refine g_iconst (a := 3) (by decide +kernel) ?_
  refine g_cVI (st := []) (c_Sh_markOf (k := k) (w := 3) hn hS hk (by decide)) k_Sh_markOf l_La_47 (by decide +kernel) (by omega) hS.a0 rfl rfl rfl (Nat.le_of_ble_eq_true rfl) (by decide) ⟨by decide, by decide⟩ ?_
  rintro a σ1 ⟨rfl, hσ⟩
  obtain rfl := hσ.symm
  refine g_istore (i := 4) (L' := [(0, _), (1, _), (2, _), (3, _), (4, _)]) (by decide +kernel) rfl rfl ?_
  refine g_aload_n (i := 0) (by decide +kernel) rfl ?_
  refine g_getr f_La_9 (by decide +kernel) (by omega) hL.a0 rfl ?_
  refine g_iload_n (i := 2) (by decide +kernel) rfl ?_
  refine g_iald (by decide +kernel) (by omega) hL.a1 rfl (by omega) (by decide) ?_
  refine g_aload_n (i := 1) (by decide +kernel) rfl ?_
  refine g_iload_n (i := 2) (by decide +kernel) rfl ?_
  refine g_iconst (a := 2) (by decide +kernel) ?_
  refine g_cVI (st := [vi (σ (c + 1) k)]) (c_Sh_markOf (k := k) (w := 2) hn hS hk (by decide)) k_Sh_markOf l_La_47 (by decide +kernel) (by omega) hS.a0 rfl rfl rfl (Nat.le_of_ble_eq_true rfl) (by decide) ⟨by decide, by decide⟩ ?_
  rintro a σ1 ⟨rfl, hσ⟩
  obtain rfl := hσ.symm
  refine g_imul (by decide +kernel) ?_
  refine g_iload_n (i := 3) (by decide +kernel) rfl ?_
  refine g_iadd (by decide +kernel) ?_
  refine g_iconst (a := 1) (by decide +kernel) ?_
  refine g_isub (by decide +kernel) ?_
  refine g_iload_n (i := 3) (by decide +kernel) rfl ?_
  refine g_idiv (by decide +kernel) ⟨by omega, by omega, by omega, by omega⟩ ?_
  refine g_istore (i := 5) (L' := [(0, _), (1, _), (2, _), (3, _), (4, _), (5, _)]) (by decide +kernel) rfl rfl ?_
  refine g_iload (i := 4) (by decide +kernel) rfl ?_
  refine g_if_le (off := 15) (tgt := 53) (by decide +kernel) (by decide) ⟨by omega, by omega⟩ (fun h38 => ?_) (fun h38 => ?_)
  · refine g_iload (i := 5) (by decide +kernel) rfl ?_
    refine g_retI (by decide +kernel) rfl (Or.inl rfl) ⟨by decide, by decide⟩ ?_
    refine ⟨?_, rfl⟩
    show _ = if 0 < σ (b + 7) (9 * k + 3) ∧ σ (b + 7) (9 * k + 3) < (σ (c + 1) k * σ (b + 7) (9 * k + 2) + σ (b + 7) (9 * k + 1) - 1) / σ (b + 7) (9 * k + 1) then _ else _
    first
      | rw [if_pos ⟨h38, h45⟩]; rfl
      | rw [if_neg (by omega)]; rfl
  · refine g_iload (i := 4) (by decide +kernel) rfl ?_
    refine g_iload (i := 5) (by decide +kernel) rfl ?_
    refine g_icmp_ge (off := 8) (tgt := 53) (by decide +kernel) (by decide) ⟨by omega, by omega⟩ ⟨by omega, by omega⟩ (fun h45 => ?_) (fun h45 => ?_)
    · refine g_iload (i := 5) (by decide +kernel) rfl ?_
      refine g_retI (by decide +kernel) rfl (Or.inl rfl) ⟨by decide, by decide⟩ ?_
      refine ⟨?_, rfl⟩
      show _ = if 0 < σ (b + 7) (9 * k + 3) ∧ σ (b + 7) (9 * k + 3) < (σ (c + 1) k * σ (b + 7) (9 * k + 2) + σ (b + 7) (9 * k + 1) - 1) / σ (b + 7) (9 * k + 1) then _ else _
      first
        | rw [if_pos ⟨h38, h45⟩]; rfl
        | rw [if_neg (by omega)]; rfl
    · refine g_iload (i := 4) (by decide +kernel) rfl ?_
      refine g_goto (off := 5) (tgt := 55) (by decide +kernel) (by decide) ?_
      refine g_retI (by decide +kernel) rfl (Or.inl rfl) ⟨by decide, by decide⟩ ?_
      refine ⟨?_, rfl⟩
      show _ = if 0 < σ (b + 7) (9 * k + 3) ∧ σ (b + 7) (9 * k + 3) < (σ (c + 1) k * σ (b + 7) (9 * k + 2) + σ (b + 7) (9 * k + 1) - 1) / σ (b + 7) (9 * k + 1) then _ else _
      first
        | rw [if_pos ⟨h38, h45⟩]; rfl
        | rw [if_neg (by omega)]; rfl
end
section
/-- what layInPar leaves -/
def zLIP (σ : zSt) (b c k : Nat) : zSt := zs (zs (zs σ (c + 4) k (zBs (zSv σ b) 12 k : Int)) (c + 5) k (if zOp (zSv σ b) k = true then 1 else 0)) (c + 3) k (zBg (zSv σ b) (σ (c + 2)) k)
theorem t_La_layInPar {G : zG} {X : zX} {n : Nat} {σ : zSt} {b c : Nat} (hn : 189 ≤ n) (hL : zLa SH c) (hS : zSw SH b) (hg : zGood σ b) (hbc : c + 6 ≤ b ∨ b + 10 ≤ c) {k a : Nat} {x4 x5 : Int} (hk : k < 12) (ha : a < 12) (e1 : zBs (zSv σ b) 12 k = a) (e2 : zBw (zSv σ b) (σ (c + 2)) 12 k = x4) : Go G X m_La_layInPar (1, 0, 0, 0, 0) n SH σ 73 [(0, vr G c), (1, vr G b), (2, vi k), (3, vi (a : Int)), (4, vi x4), (5, vi x5)] [] (zV n SH (fun σ' => σ' = zLIP σ b c k)) := by
  have hb := hS.1
  have hcc := hL.1
  have hc := hg.1
  have hka := hg.2.1 a ha
  have hop : zOp (zSv σ b) k = decide (σ (b + 4) a = 3) := by unfold zOp; rw [e1]; rfl
  refine g_aload_n (i := 0) (by decide +kernel) rfl ?_
  refine g_getr f_La_21 (by decide +kernel) (by omega) hL.a0 rfl ?_
  refine g_iload_n (i := 2) (by decide +kernel) rfl ?_
  refine g_iload_n (i := 3) (by decide +kernel) rfl ?_
  refine g_iast (j := k) (by decide +kernel) (by omega) hL.a4 rfl (by omega) (by decide) ?_
  refine g_aload_n (i := 0) (by decide +kernel) rfl ?_
  refine g_getr f_La_24 (by decide +kernel) (by omega) hL.a0 rfl ?_
  refine g_iload_n (i := 2) (by decide +kernel) rfl ?_
  refine g_aload_n (i := 1) (by decide +kernel) rfl ?_
  refine g_getr f_La_79 (by decide +kernel) (by omega) hS.a0 rfl ?_
  refine g_iload_n (i := 3) (by decide +kernel) rfl ?_
  refine g_iald (j := a) (by decide +kernel) (by omega) hS.a4 rfl (by omega) (by decide) ?_
  refine g_iconst (a := 3) (by decide +kernel) ?_
  refine g_icmp_ne (off := 7) (tgt := 99) (by decide +kernel) (by decide) ⟨by rw [zs_other (by omega)]; omega, by rw [zs_other (by omega)]; omega⟩ ⟨by omega, by omega⟩ (fun h92 => ?_) (fun h92 => ?_)
  · rw [zs_other (by omega)] at h92
    refine g_iconst (a := 0) (by decide +kernel) ?_
    refine g_zast (j := k) (by decide +kernel) (by omega) hL.a5 rfl (by omega) (by decide) (by omega) ?_
    refine g_aload_n (i := 0) (by decide +kernel) rfl ?_
    refine g_getr f_La_18 (by decide +kernel) (by omega) hL.a0 rfl ?_
    refine g_iload_n (i := 2) (by decide +kernel) rfl ?_
    refine g_aload_n (i := 0) (by decide +kernel) rfl ?_
    refine g_getr f_La_24 (by decide +kernel) (by omega) hL.a0 rfl ?_
    refine g_iload_n (i := 2) (by decide +kernel) rfl ?_
    refine g_zald (j := k) (by decide +kernel) (by omega) hL.a5 rfl (by omega) (by decide) ?_
    refine g_if_eq (off := 8) (tgt := 120) (by decide +kernel) (by decide) ⟨by rw [zs_eq]; decide, by rw [zs_eq]; decide⟩ (fun _ => ?_) (fun h => absurd h (by rw [zs_eq]; decide))
    refine g_iload (i := 4) (by decide +kernel) rfl ?_
    refine g_aload_n (i := 1) (by decide +kernel) rfl ?_
    refine g_getr f_La_54 (by decide +kernel) (by omega) hS.a0 rfl ?_
    refine g_iload_n (i := 3) (by decide +kernel) rfl ?_
    refine g_iald (j := a) (by decide +kernel) (by omega) hS.a6 rfl (by omega) (by decide) ?_
    refine g_iadd (by decide +kernel) ?_
    refine g_iast (j := k) (by decide +kernel) (by omega) hL.a3 rfl (by omega) (by decide) ?_
    refine g_retV (by decide +kernel) rfl ⟨by decide, by decide⟩ ?_
    first
      | (have ho : zOp (zSv σ b) k = true := by rw [hop, h92]; rfl
         unfold zLIP zBg
         rw [e1, e2, if_pos ho, if_pos ho, Int.add_zero])
      | (have ho : zOp (zSv σ b) k = false := by rw [hop, decide_eq_false h92]
         unfold zLIP zBg
         rw [e1, e2, ho]
         simp [zs_app, zSv]
         rw [if_neg (by omega), if_neg (by omega)])
  · rw [zs_other (by omega)] at h92
    refine g_iconst (a := 1) (by decide +kernel) ?_
    refine g_goto (off := 4) (tgt := 100) (by decide +kernel) (by decide) ?_
    refine g_zast (j := k) (by decide +kernel) (by omega) hL.a5 rfl (by omega) (by decide) (by omega) ?_
    refine g_aload_n (i := 0) (by decide +kernel) rfl ?_
    refine g_getr f_La_18 (by decide +kernel) (by omega) hL.a0 rfl ?_
    refine g_iload_n (i := 2) (by decide +kernel) rfl ?_
    refine g_aload_n (i := 0) (by decide +kernel) rfl ?_
    refine g_getr f_La_24 (by decide +kernel) (by omega) hL.a0 rfl ?_
    refine g_iload_n (i := 2) (by decide +kernel) rfl ?_
    refine g_zald (j := k) (by decide +kernel) (by omega) hL.a5 rfl (by omega) (by decide) ?_
    refine g_if_eq (off := 8) (tgt := 120) (by decide +kernel) (by decide) ⟨by rw [zs_eq]; decide, by rw [zs_eq]; decide⟩ (fun h => absurd h (by rw [zs_eq]; decide)) (fun _ => ?_)
    refine g_iload (i := 4) (by decide +kernel) rfl ?_
    refine g_goto (off := 12) (tgt := 129) (by decide +kernel) (by decide) ?_
    refine g_iast (j := k) (by decide +kernel) (by omega) hL.a3 rfl (by omega) (by decide) ?_
    refine g_retV (by decide +kernel) rfl ⟨by decide, by decide⟩ ?_
    first
      | (have ho : zOp (zSv σ b) k = true := by rw [hop, h92]; rfl
         unfold zLIP zBg
         rw [e1, e2, if_pos ho, if_pos ho, Int.add_zero])
      | (have ho : zOp (zSv σ b) k = false := by rw [hop, decide_eq_false h92]
         unfold zLIP zBg
         rw [e1, e2, ho]
         simp [zs_app, zSv]
         rw [if_neg (by omega), if_neg (by omega)])
theorem w_La_layInPar {G : zG} {X : zX} {n : Nat} {σ : zSt} {b c : Nat} {k : Nat} (hn : 189 ≤ n) (hL : zLa SH c) (hS : zSw SH b) (hg : zGood σ b) (hbc : c + 6 ≤ b ∨ b + 10 ≤ c) (hk : k < 12) {D : Nat → Prop} (hD : ∀ y, D y → y < 12 ∧ (zby (σ (b + 4) y) = true → 0 ≤ σ (b + 5) y ∧ D (σ (b + 5) y).toNat)) : ∀ (m : Nat) (i a : Nat) (x4 x5 : Int) (L6 : List (Nat × Value)), x5 = (i : Int) → D a → zBs (zSv σ b) 12 k = zBs (zSv σ b) (12 - i) a → zBw (zSv σ b) (σ (c + 2)) 12 k = x4 + zBw (zSv σ b) (σ (c + 2)) (12 - i) a → (L6 = [] ∨ ∃ v, L6 = [(6, vi v)]) → i ≤ 12 → 12 < i + m → Go G X m_La_layInPar (1, 0, 0, 0, 0) n SH σ 8 ([(0, vr G c), (1, vr G b), (2, vi k), (3, vi (a : Int)), (4, vi x4), (5, vi x5)] ++ L6) [] (zV n SH (fun σ' => σ' = zLIP σ b c k)) := by
  intro m
  induction m with
  | zero => intro i a x4 x5 L6 e5 ha e1 e2 h6 hi hm; exact absurd hm (by omega)
  | succ m ih =>
    intro i a x4 x5 L6 e5 ha e1 e2 h6 hi hm
    have hb := hS.1
    have hcc := hL.1
    have hc := hg.1
    obtain ⟨a12, hDa⟩ := hD a ha
    have hka := hg.2.1 a a12
    refine g_less [0, 1, 2, 3, 4, 5] (L' := [(0, vr G c), (1, vr G b), (2, vi k), (3, vi (a : Int)), (4, vi x4), (5, vi x5)]) (by rcases h6 with rfl | ⟨v, rfl⟩ <;> rfl) ?_
    refine g_iload (i := 5) (by decide +kernel) rfl ?_
    refine g_bipush (a := 12) (by decide +kernel) (by decide) ?_
    refine g_icmp_ge (off := 61) (tgt := 73) (by decide +kernel) (by decide) ⟨by omega, by omega⟩ ⟨by omega, by omega⟩ (fun h12 => ?_) (fun h12 => ?_)
    · first
        | exact t_La_layInPar hn hL hS hg hbc hk a12 (by rw [e1, show 12 - i = 0 by omega]; rfl) (by rw [e2, show 12 - i = 0 by omega]; simp [zBw])
        | exact t_La_layInPar hn hL hS hg hbc hk a12 e1 (by omega)
    · rw [show 12 - i = (12 - (i + 1)) + 1 by omega, zBs_s (zSv σ b) (12 - (i + 1)), show zSv σ b 4 a = σ (b + 4) a from rfl] at e1
      rw [show 12 - i = (12 - (i + 1)) + 1 by omega, zBw_s (zSv σ b) _ (12 - (i + 1)), show zSv σ b 4 a = σ (b + 4) a from rfl] at e2
      refine g_aload_n (i := 1) (by decide +kernel) rfl ?_
      refine g_iload_n (i := 3) (by decide +kernel) rfl ?_
      refine g_cVI (st := []) (c_Sh_startsByAnother (k := a) hn hS hg a12) k_Sh_startsByAnother l_La_72 (by decide +kernel) (by omega) hS.a0 rfl rfl rfl (Nat.le_of_ble_eq_true rfl) (by decide) ⟨by decide, by decide⟩ ?_
      rintro v σ1 ⟨rfl, hσ⟩
      obtain rfl := hσ.symm
      refine g_if_eq (off := 53) (tgt := 73) (by decide +kernel) (by decide) zbr (fun h20 => ?_) (fun h20 => ?_)
      · have h20 := zb0.mp h20
        rw [if_neg h20] at e1 e2
        first
          | exact t_La_layInPar hn hL hS hg hbc hk a12 (by rw [e1, show 12 - i = 0 by omega]; rfl) (by rw [e2, show 12 - i = 0 by omega]; simp [zBw])
          | exact t_La_layInPar hn hL hS hg hbc hk a12 e1 (by omega)
      · have h20 := zb1.mp h20
        rw [if_pos h20] at e1 e2
        have hq := hDa h20
        have hq2 := (hD _ hq.2).1
        obtain ⟨o, ho⟩ := Int.eq_ofNat_of_zero_le hq.1
        have ho2 : (σ (b + 5) a).toNat = o := by omega
        rw [show (zSv σ b 5 a).toNat = o from ho2] at e1 e2
        rw [ho2] at hq hq2
        refine g_aload_n (i := 1) (by decide +kernel) rfl ?_
        refine g_getr f_La_76 (by decide +kernel) (by omega) hS.a0 rfl ?_
        refine g_iload_n (i := 3) (by decide +kernel) rfl ?_
        refine g_iald (j := a) (by decide +kernel) (by omega) hS.a5 rfl (by omega) (by decide) ?_
        refine g_istore (i := 6) (L' := [(0, _), (1, _), (2, _), (3, _), (4, _), (5, _), (6, _)]) (by decide +kernel) rfl rfl ?_
        refine g_iload (i := 4) (by decide +kernel) rfl ?_
        refine g_aload_n (i := 1) (by decide +kernel) rfl ?_
        refine g_getr f_La_54 (by decide +kernel) (by omega) hS.a0 rfl ?_
        refine g_iload_n (i := 3) (by decide +kernel) rfl ?_
        refine g_iald (j := a) (by decide +kernel) (by omega) hS.a6 rfl (by omega) (by decide) ?_
        refine g_aload_n (i := 1) (by decide +kernel) rfl ?_
        refine g_getr f_La_79 (by decide +kernel) (by omega) hS.a0 rfl ?_
        refine g_iload_n (i := 3) (by decide +kernel) rfl ?_
        refine g_iald (j := a) (by decide +kernel) (by omega) hS.a4 rfl (by omega) (by decide) ?_
        refine g_iconst (a := 2) (by decide +kernel) ?_
        refine g_icmp_ne (off := 13) (tgt := 59) (by decide +kernel) (by decide) ⟨by omega, by omega⟩ ⟨by omega, by omega⟩ (fun h46 => ?_) (fun h46 => ?_)
        · refine g_iconst (a := 0) (by decide +kernel) ?_
          refine g_iadd (by decide +kernel) ?_
          refine g_iadd (by decide +kernel) ?_
          refine g_istore (i := 4) (L' := [(0, _), (1, _), (2, _), (3, _), (4, _), (5, _), (6, _)]) (by decide +kernel) rfl rfl ?_
          refine g_iload (i := 6) (by decide +kernel) rfl ?_
          refine g_istore_n (i := 3) (L' := [(0, _), (1, _), (2, _), (3, _), (4, _), (5, _), (6, _)]) (by decide +kernel) rfl rfl ?_
          refine g_iinc (i := 5) (b := 1) (L' := [(0, _), (1, _), (2, _), (3, _), (4, _), (5, _), (6, _)]) (by decide +kernel) rfl rfl rfl ?_
          refine g_goto (off := -62) (tgt := 8) (by decide +kernel) (by decide) ?_
          rw [ho]
          refine ih (i + 1) o _ _ [(6, vi (o : Int))] (by omega) hq.2 e1 ?_ (Or.inr ⟨_, rfl⟩) (by omega) (by omega)
          rw [e2, show zSv σ b 6 a = σ (b + 6) a from rfl]
          first
            | (rw [if_pos h46]; omega)
            | (rw [if_neg h46]; omega)
        · refine g_aload_n (i := 0) (by decide +kernel) rfl ?_
          refine g_getr f_La_15 (by decide +kernel) (by omega) hL.a0 rfl ?_
          refine g_iload (i := 6) (by decide +kernel) rfl ?_
          refine g_iald (j := o) (by decide +kernel) (by omega) hL.a2 ho (by omega) (by decide) ?_
          refine g_goto (off := 4) (tgt := 60) (by decide +kernel) (by decide) ?_
          refine g_iadd (by decide +kernel) ?_
          refine g_iadd (by decide +kernel) ?_
          refine g_istore (i := 4) (L' := [(0, _), (1, _), (2, _), (3, _), (4, _), (5, _), (6, _)]) (by decide +kernel) rfl rfl ?_
          refine g_iload (i := 6) (by decide +kernel) rfl ?_
          refine g_istore_n (i := 3) (L' := [(0, _), (1, _), (2, _), (3, _), (4, _), (5, _), (6, _)]) (by decide +kernel) rfl rfl ?_
          refine g_iinc (i := 5) (b := 1) (L' := [(0, _), (1, _), (2, _), (3, _), (4, _), (5, _), (6, _)]) (by decide +kernel) rfl rfl rfl ?_
          refine g_goto (off := -62) (tgt := 8) (by decide +kernel) (by decide) ?_
          rw [ho]
          refine ih (i + 1) o _ _ [(6, vi (o : Int))] (by omega) hq.2 e1 ?_ (Or.inr ⟨_, rfl⟩) (by omega) (by omega)
          rw [e2, show zSv σ b 6 a = σ (b + 6) a from rfl]
          first
            | (rw [if_pos h46]; omega)
            | (rw [if_neg h46]; omega)
theorem c_La_layInPar {G : zG} {n : Nat} {σ : zSt} {b c : Nat} {k : Nat} (hn : 189 ≤ n) (hL : zLa SH c) (hS : zSw SH b) (hg : zGood σ b) (hbc : c + 6 ≤ b ∨ b + 10 ≤ c) (hk : k < 12) {D : Nat → Prop} (hD : ∀ y, D y → y < 12 ∧ (zby (σ (b + 4) y) = true → 0 ≤ σ (b + 5) y ∧ D (σ (b + 5) y).toNat)) (hDk : D k) : Gm G y_La_layInPar m_La_layInPar 1 0 0 [vr G c, vr G b, vi k] n SH σ (zV n SH (fun σ' => σ' = zLIP σ b c k)) := by
  refine g_enter (L := [(0, _), (1, _), (2, _)]) (by decide) rfl rfl rfl (Nat.le_of_ble_eq_true rfl) (fun X => ?_)
  refine g_iload_n (i := 2) (by decide +kernel) rfl ?_
  refine g_istore_n (i := 3) (L' := [(0, _), (1, _), (2, _), (3, _)]) (by decide +kernel) rfl rfl ?_
  refine g_iconst (a := 0) (by decide +kernel) ?_
  refine g_istore (i := 4) (L' := [(0, _), (1, _), (2, _), (3, _), (4, _)]) (by decide +kernel) rfl rfl ?_
  refine g_iconst (a := 0) (by decide +kernel) ?_
  refine g_istore (i := 5) (L' := [(0, _), (1, _), (2, _), (3, _), (4, _), (5, _)]) (by decide +kernel) rfl rfl ?_
  exact w_La_layInPar hn hL hS hg hbc hk hD 13 0 k _ _ [] rfl hDk rfl (by simp) (Or.inl rfl) (by omega) (by omega)
/-- what is laid within q, of those below i: begin, base, open of its own are as they should be, all else stays -/
def zLQ (σ τ : zSt) (b c q i : Nat) : Prop := (∀ a, a ≠ c + 3 → a ≠ c + 4 → a ≠ c + 5 → τ a = σ a) ∧
  (∀ j, (j < i ∧ q < j ∧ σ (b + 2) j = q) → τ (c + 3) j = zBg (zSv σ b) (σ (c + 2)) j ∧ τ (c + 4) j = (zBs (zSv σ b) 12 j : Int) ∧ τ (c + 5) j = (if zOp (zSv σ b) j = true then 1 else 0)) ∧
  (∀ j, ¬ (j < i ∧ q < j ∧ σ (b + 2) j = q) → τ (c + 3) j = σ (c + 3) j ∧ τ (c + 4) j = σ (c + 4) j ∧ τ (c + 5) j = σ (c + 5) j)
theorem zSv_eq {σ τ : zSt} {b : Nat} (h : ∀ r, r < 10 → τ (b + r) = σ (b + r)) : ∀ r, r < 10 → zSv τ b r = zSv σ b r := h
theorem zGood_eq {σ τ : zSt} {b : Nat} (h : ∀ r, r < 10 → τ (b + r) = σ (b + r)) (hg : zGood σ b) : zGood τ b := by
  obtain ⟨g1, g2, g3, g4⟩ := hg
  have h0 := h 0 (by decide)
  rw [Nat.add_zero] at h0
  refine ⟨by rw [h0]; exact g1, fun k hk => ?_, fun k hk => ?_, fun i hi => ?_⟩
  · rw [h 1 (by decide), h 2 (by decide), h 3 (by decide), h 4 (by decide), h 5 (by decide), h 6 (by decide)]
    exact g2 k hk
  · rw [h 7 (by decide)]; exact g3 k hk
  · rw [h 8 (by decide), h 9 (by decide)]; exact g4 i hi
theorem zBs_eq {S T : zSt} (h : ∀ r, r < 10 → T r = S r) : ∀ f k, zBs T f k = zBs S f k
  | 0, k => rfl
  | f + 1, k => by rw [zBs_s, zBs_s, h 4 (by decide), h 5 (by decide), zBs_eq h f]
theorem zBw_eq {S T : zSt} {ac : Nat → Int} (h : ∀ r, r < 10 → T r = S r) : ∀ f k, zBw T ac f k = zBw S ac f k
  | 0, k => rfl
  | f + 1, k => by rw [zBw_s, zBw_s, h 4 (by decide), h 5 (by decide), h 6 (by decide), zBw_eq h f]
theorem zOp_eq {S T : zSt} (h : ∀ r, r < 10 → T r = S r) (k : Nat) : zOp T k = zOp S k := by
  unfold zOp; rw [zBs_eq h, h 4 (by decide)]
theorem zBg_eq {S T : zSt} {ac : Nat → Int} (h : ∀ r, r < 10 → T r = S r) (k : Nat) : zBg T ac k = zBg S ac k := by
  unfold zBg; rw [zBw_eq h, zOp_eq h, zBs_eq h, h 6 (by decide)]
theorem zLQ_in {σ τ : zSt} {b c q i : Nat} (h : zLQ σ τ b c q i) (hbc : c + 6 ≤ b ∨ b + 10 ≤ c) : (∀ r, r < 10 → τ (b + r) = σ (b + r)) ∧ τ (c + 2) = σ (c + 2) ∧ τ (c + 1) = σ (c + 1) := ⟨fun r hr => h.1 _ (by omega) (by omega) (by omega), h.1 _ (by omega) (by omega) (by omega), h.1 _ (by omega) (by omega) (by omega)⟩
theorem zLQ_step {σ τ : zSt} {b c q i : Nat} (h : zLQ σ τ b c q i) (hbc : c + 6 ≤ b ∨ b + 10 ≤ c) (hq : q < i) (hi : σ (b + 2) i = q) : zLQ σ (zLIP τ b c i) b c q (i + 1) := by
  obtain ⟨e1, e2, -⟩ := zLQ_in h hbc
  obtain ⟨h1, h2, h3⟩ := h
  have s := zSv_eq e1
  unfold zLIP
  rw [zBs_eq s, zOp_eq s, zBg_eq s, e2]
  refine ⟨fun a a3 a4 a5 => by rw [zs_other a3, zs_other a5, zs_other a4]; exact h1 a a3 a4 a5, fun j hj => ?_, fun j hj => ?_⟩
  · by_cases e : j = i
    · subst e; simp [zs_app, zu_app]
    · have := h2 j ⟨by omega, hj.2⟩
      simpa [zs_app, zu_app, e] using this
  · have e : j ≠ i := fun e => hj (by subst e; exact ⟨by omega, hq, hi⟩)
    have := h3 j (fun z => hj ⟨by omega, z.2⟩)
    simpa [zs_app, zu_app, e] using this
theorem zLQ_skip {σ τ : zSt} {b c q i : Nat} (h : zLQ σ τ b c q i) (hi : ¬ (q < i ∧ σ (b + 2) i = q)) : zLQ σ τ b c q (i + 1) := by
  obtain ⟨h1, h2, h3⟩ := h
  refine ⟨h1, fun j hj => h2 j ⟨?_, hj.2⟩, fun j hj => h3 j (fun z => hj ⟨by omega, z.2⟩)⟩
  rcases Nat.lt_or_ge j i with z | z
  · exact z
  · exact absurd (by rw [show i = j by omega]; exact hj.2) hi
theorem zMx_in {S : zSt} {ac : Nat → Int} {q : Nat} {N : Nat} (h : ∀ j, j < N → S 2 j = q → zOp S j = false → 0 ≤ zBg S ac j + ac j ∧ zBg S ac j + ac j ≤ 2000000000) : ∀ i, i ≤ N → 0 ≤ zMx S ac q i ∧ zMx S ac q i ≤ 2000000000
  | 0, _ => ⟨Int.le_refl 0, show (0 : Int) ≤ 2000000000 by decide⟩
  | i + 1, hi => by
    have := zMx_in h i (by omega)
    rw [zMx_s]
    split
    · next z =>
      have := h i (by omega) z.2.1 z.2.2
      omega
    · exact this
theorem w_La_layAtOnce {G : zG} {X : zX} {n : Nat} {σ : zSt} {b c : Nat} (hn : 189 ≤ n) (hL : zLa SH c) (hS : zSw SH b) (hg : zGood σ b) (hbc : c + 6 ≤ b ∨ b + 10 ≤ c) {q : Nat} (hq : q < (σ b 0).toNat) (hcl : ∀ j, j < (σ b 0).toNat → σ (b + 2) j = q → zby (σ (b + 4) j) = true → 0 ≤ σ (b + 5) j ∧ (σ (b + 5) j).toNat < (σ b 0).toNat ∧ σ (b + 2) (σ (b + 5) j).toNat = q) (hbd : ∀ j, j < (σ b 0).toNat → σ (b + 2) j = q → zOp (zSv σ b) j = false → 0 ≤ zBg (zSv σ b) (σ (c + 2)) j + σ (c + 2) j ∧ zBg (zSv σ b) (σ (c + 2)) j + σ (c + 2) j ≤ 2000000000) : ∀ (m : Nat) (i : Nat) (x3 x4 : Int) (τ : zSt), x4 = (i : Int) → x3 = zMx (zSv σ b) (σ (c + 2)) q i → zLQ σ τ b c q i → q < i → i ≤ (σ b 0).toNat → (σ b 0).toNat < i + m → Go G X m_La_layAtOnce (2, 0, 0, 0, 0) n SH τ 7 [(0, vr G c), (1, vr G b), (2, vi (q : Int)), (3, vi x3), (4, vi x4)] [] (zI n SH (fun a σ' => a = zMx (zSv σ b) (σ (c + 2)) q (σ b 0).toNat ∧ zLQ σ σ' b c q (σ b 0).toNat)) := by
  intro m
  induction m with
  | zero => intro i x3 x4 τ e4 e3 ht hqi hi hm; exact absurd hm (by omega)
  | succ m ih =>
    intro i x3 x4 τ e4 e3 ht hqi hi hm
    have hb := hS.1
    have hcc := hL.1
    have hc := hg.1
    obtain ⟨u1, u2, u3⟩ := zLQ_in ht hbc
    have s0 : τ b 0 = σ b 0 := by rw [show τ b = σ b from u1 0 (by decide)]
    have tg := zGood_eq u1 hg
    have mx := zMx_in (S := (zSv σ b)) (ac := σ (c + 2)) hbd i hi
    subst e4 e3
    refine g_iload (i := 4) (by decide +kernel) rfl ?_
    refine g_aload_n (i := 1) (by decide +kernel) rfl ?_
    refine g_geti f_La_32 (by decide +kernel) (by omega) hS.a0 rfl ?_
    refine g_icmp_ge (off := 57) (tgt := 70) (by decide +kernel) (by decide) ⟨by omega, by omega⟩ ⟨by omega, by omega⟩ (fun h13 => ?_) (fun h13 => ?_)
    · refine g_iload_n (i := 3) (by decide +kernel) rfl ?_
      refine g_retI (by decide +kernel) rfl (Or.inl rfl) ⟨by decide, by decide⟩ ?_
      rw [show i = (σ b 0).toNat by omega] at ht ⊢
      exact ⟨rfl, ht⟩
    · have s2 : τ (b + 2) i = σ (b + 2) i := by rw [u1 2 (by decide)]
      have hki := hg.2.1 i (by omega)
      refine g_aload_n (i := 1) (by decide +kernel) rfl ?_
      refine g_getr f_La_60 (by decide +kernel) (by omega) hS.a0 rfl ?_
      refine g_iload (i := 4) (by decide +kernel) rfl ?_
      refine g_iald (j := i) (by decide +kernel) (by omega) hS.a2 rfl (by omega) (by decide) ?_
      refine g_iload_n (i := 2) (by decide +kernel) rfl ?_
      refine g_icmp_ne (off := 40) (tgt := 64) (by decide +kernel) (by decide) ⟨by omega, by omega⟩ ⟨by omega, by omega⟩ (fun h24 => ?_) (fun h24 => ?_)
      · refine g_iinc (i := 4) (b := 1) (L' := [(0, _), (1, _), (2, _), (3, _), (4, _)]) (by decide +kernel) rfl rfl rfl ?_
        refine g_goto (off := -60) (tgt := 7) (by decide +kernel) (by decide) ?_
        first
          | (have hz : τ (b + 2) i ≠ (q : Int) := h24
             exact ih (i + 1) _ _ _ (by omega) (by rw [zMx_s, if_neg (by show ¬ (_ ∧ σ (b + 2) i = q ∧ _); omega)]) (zLQ_skip ht (by omega)) (by omega) (by omega) (by omega))
          | (have hz : zOp (zSv σ b) i = true := ho
             exact ih (i + 1) _ _ _ (by omega) (by rw [zMx_s, if_neg (by rw [ho]; simp)]) st1 (by omega) (by omega) (by omega))
          | (have hz : zOp (zSv σ b) i = false := ho
             exact ih (i + 1) _ _ _ (by omega) (by rw [zMx_s, if_pos ⟨hqi, hqi2, ho⟩, z1.1, z4]) st1 (by omega) (by omega) (by omega))
      · have hqi2 : σ (b + 2) i = q := by omega
        have st1 := zLQ_step ht hbc hqi hqi2
        have bd := hbd i (by omega) hqi2
        have z1 := (st1.2.1 i ⟨by omega, hqi, hqi2⟩)
        refine g_aload_n (i := 0) (by decide +kernel) rfl ?_
        refine g_aload_n (i := 1) (by decide +kernel) rfl ?_
        refine g_iload (i := 4) (by decide +kernel) rfl ?_
        refine g_cVV (st := []) (c_La_layInPar (D := fun y => y < (σ b 0).toNat ∧ σ (b + 2) y = q) hn hL hS tg hbc (by omega) (fun y hy => ⟨by omega, fun h => by
          rw [u1 4 (by decide)] at h
          rw [u1 5 (by decide)]
          have := hcl y hy.1 hy.2 h
          exact ⟨this.1, this.2⟩⟩) ⟨by omega, hqi2⟩) k_La_layInPar l_La_63 (by decide +kernel) (by omega) hL.a0 rfl rfl rfl (Nat.le_of_ble_eq_true rfl) (by decide) ⟨by decide, by decide⟩ ?_
        rintro σ1 hσ
        obtain rfl := hσ.symm
        refine g_aload_n (i := 0) (by decide +kernel) rfl ?_
        refine g_getr f_La_24 (by decide +kernel) (by omega) hL.a0 rfl ?_
        refine g_iload (i := 4) (by decide +kernel) rfl ?_
        refine g_zald (j := i) (by decide +kernel) (by omega) hL.a5 rfl (by omega) (by decide) ?_
        refine g_if_ne (off := 23) (tgt := 64) (by decide +kernel) (by decide) ⟨by rw [z1.2.2]; split <;> decide, by rw [z1.2.2]; split <;> decide⟩ (fun h41 => ?_) (fun h41 => ?_)
        · have ho : zOp (zSv σ b) i = true := by
            cases hx : zOp (zSv σ b) i with
            | true => rfl
            | false => rw [z1.2.2, hx] at h41; simp at h41
          refine g_iinc (i := 4) (b := 1) (L' := [(0, _), (1, _), (2, _), (3, _), (4, _)]) (by decide +kernel) rfl rfl rfl ?_
          refine g_goto (off := -60) (tgt := 7) (by decide +kernel) (by decide) ?_
          first
            | (have hz : τ (b + 2) i ≠ (q : Int) := h24
               exact ih (i + 1) _ _ _ (by omega) (by rw [zMx_s, if_neg (by show ¬ (_ ∧ σ (b + 2) i = q ∧ _); omega)]) (zLQ_skip ht (by omega)) (by omega) (by omega) (by omega))
            | (have hz : zOp (zSv σ b) i = true := ho
               exact ih (i + 1) _ _ _ (by omega) (by rw [zMx_s, if_neg (by rw [ho]; simp)]) st1 (by omega) (by omega) (by omega))
            | (have hz : zOp (zSv σ b) i = false := ho
               exact ih (i + 1) _ _ _ (by omega) (by rw [zMx_s, if_pos ⟨hqi, hqi2, ho⟩, z1.1, z4]) st1 (by omega) (by omega) (by omega))
        · have ho : zOp (zSv σ b) i = false := by
            cases hx : zOp (zSv σ b) i with
            | false => rfl
            | true => rw [z1.2.2, if_pos hx] at h41; omega
          have bd2 := bd ho
          have z4 : zLIP τ b c i (c + 2) i = σ (c + 2) i := by rw [st1.1 _ (by omega) (by omega) (by omega)]
          refine g_iload_n (i := 3) (by decide +kernel) rfl ?_
          refine g_aload_n (i := 0) (by decide +kernel) rfl ?_
          refine g_getr f_La_18 (by decide +kernel) (by omega) hL.a0 rfl ?_
          refine g_iload (i := 4) (by decide +kernel) rfl ?_
          refine g_iald (j := i) (by decide +kernel) (by omega) hL.a3 rfl (by omega) (by decide) ?_
          refine g_aload_n (i := 0) (by decide +kernel) rfl ?_
          refine g_getr f_La_15 (by decide +kernel) (by omega) hL.a0 rfl ?_
          refine g_iload (i := 4) (by decide +kernel) rfl ?_
          refine g_iald (j := i) (by decide +kernel) (by omega) hL.a2 rfl (by omega) (by decide) ?_
          refine g_iadd (by decide +kernel) ?_
          refine g_max ma_max_La_67 (by decide +kernel) ⟨by omega, by omega⟩ ⟨by rw [z1.1, z4]; omega, by rw [z1.1, z4]; omega⟩ (Nat.le_of_ble_eq_true rfl) (by decide) ⟨by decide, by decide⟩ ?_
          refine g_istore_n (i := 3) (L' := [(0, _), (1, _), (2, _), (3, _), (4, _)]) (by decide +kernel) rfl rfl ?_
          refine g_iinc (i := 4) (b := 1) (L' := [(0, _), (1, _), (2, _), (3, _), (4, _)]) (by decide +kernel) rfl rfl rfl ?_
          refine g_goto (off := -60) (tgt := 7) (by decide +kernel) (by decide) ?_
          first
            | (have hz : τ (b + 2) i ≠ (q : Int) := h24
               exact ih (i + 1) _ _ _ (by omega) (by rw [zMx_s, if_neg (by show ¬ (_ ∧ σ (b + 2) i = q ∧ _); omega)]) (zLQ_skip ht (by omega)) (by omega) (by omega) (by omega))
            | (have hz : zOp (zSv σ b) i = true := ho
               exact ih (i + 1) _ _ _ (by omega) (by rw [zMx_s, if_neg (by rw [ho]; simp)]) st1 (by omega) (by omega) (by omega))
            | (have hz : zOp (zSv σ b) i = false := ho
               exact ih (i + 1) _ _ _ (by omega) (by rw [zMx_s, if_pos ⟨hqi, hqi2, ho⟩, z1.1, z4]) st1 (by omega) (by omega) (by omega))
theorem c_La_layAtOnce {G : zG} {n : Nat} {σ : zSt} {b c : Nat} (hn : 189 ≤ n) (hL : zLa SH c) (hS : zSw SH b) (hg : zGood σ b) (hbc : c + 6 ≤ b ∨ b + 10 ≤ c) {q : Nat} (hq : q < (σ b 0).toNat) (hcl : ∀ j, j < (σ b 0).toNat → σ (b + 2) j = q → zby (σ (b + 4) j) = true → 0 ≤ σ (b + 5) j ∧ (σ (b + 5) j).toNat < (σ b 0).toNat ∧ σ (b + 2) (σ (b + 5) j).toNat = q) (hbd : ∀ j, j < (σ b 0).toNat → σ (b + 2) j = q → zOp (zSv σ b) j = false → 0 ≤ zBg (zSv σ b) (σ (c + 2)) j + σ (c + 2) j ∧ zBg (zSv σ b) (σ (c + 2)) j + σ (c + 2) j ≤ 2000000000) : Gm G y_La_layAtOnce m_La_layAtOnce 2 0 0 [vr G c, vr G b, vi (q : Int)] n SH σ (zI n SH (fun a σ' => a = zMx (zSv σ b) (σ (c + 2)) q (σ b 0).toNat ∧ zLQ σ σ' b c q (σ b 0).toNat)) := by
  refine g_enter (L := [(0, _), (1, _), (2, _)]) (by decide) rfl rfl rfl (Nat.le_of_ble_eq_true rfl) (fun X => ?_)
  have hb := hS.1
  have hcc := hL.1
  have hc := hg.1
  refine g_iconst (a := 0) (by decide +kernel) ?_
  refine g_istore_n (i := 3) (L' := [(0, _), (1, _), (2, _), (3, _)]) (by decide +kernel) rfl rfl ?_
  refine g_iload_n (i := 2) (by decide +kernel) rfl ?_
  refine g_iconst (a := 1) (by decide +kernel) ?_
  refine g_iadd (by decide +kernel) ?_
  refine g_istore (i := 4) (L' := [(0, _), (1, _), (2, _), (3, _), (4, _)]) (by decide +kernel) rfl rfl ?_
  refine w_La_layAtOnce hn hL hS hg hbc hq hcl hbd 13 (q + 1) _ _ σ (by omega) ?_ ?_ (by omega) (by omega) (by omega)
  · have : ∀ i, i ≤ q + 1 → zMx (zSv σ b) (σ (c + 2)) q i = 0 := by
      intro i
      induction i with
      | zero => intro _; rfl
      | succ i ih => intro h; rw [zMx_s, if_neg (by omega)]; exact ih (by omega)
    exact (this _ (Nat.le_refl _)).symm
  · exact ⟨fun _ _ _ _ => rfl, fun j hj => by omega, fun _ _ => ⟨rfl, rfl, rfl⟩⟩
end
section
/-- what is laid one behind the other within q, at places below p -/
def zLE (σ τ : zSt) (b c q p : Nat) : Prop := (∀ a, a ≠ c + 3 → a ≠ c + 4 → a ≠ c + 5 → τ a = σ a) ∧
  (∀ j, (j < (σ b 0).toNat ∧ σ (b + 2) j = q ∧ σ (b + 3) j < p) → τ (c + 3) j = zEn (zSv σ b) (σ (c + 2)) q (σ (b + 3) j).toNat + σ (b + 6) j ∧ τ (c + 4) j = (j : Int) ∧ τ (c + 5) j = 0) ∧
  (∀ j, ¬ (j < (σ b 0).toNat ∧ σ (b + 2) j = q ∧ σ (b + 3) j < p) → τ (c + 3) j = σ (c + 3) j ∧ τ (c + 4) j = σ (c + 4) j ∧ τ (c + 5) j = σ (c + 5) j)
theorem zLE_in {σ τ : zSt} {b c q i : Nat} (h : zLE σ τ b c q i) (hbc : c + 6 ≤ b ∨ b + 10 ≤ c) : (∀ r, r < 10 → τ (b + r) = σ (b + r)) ∧ τ (c + 2) = σ (c + 2) ∧ τ (c + 1) = σ (c + 1) := ⟨fun r hr => h.1 _ (by omega) (by omega) (by omega), h.1 _ (by omega) (by omega) (by omega), h.1 _ (by omega) (by omega) (by omega)⟩
theorem zLE_step {σ τ : zSt} {b c q p k : Nat} {v : Int} (h : zLE σ τ b c q p) (hk : k < (σ b 0).toNat ∧ σ (b + 2) k = q ∧ σ (b + 3) k = p) (hu : ∀ j, j < (σ b 0).toNat → σ (b + 2) j = q → σ (b + 3) j = p → j = k) (hv : v = zEn (zSv σ b) (σ (c + 2)) q p + σ (b + 6) k) : zLE σ (zs (zs (zs τ (c + 4) k k) (c + 5) k 0) (c + 3) k v) b c q (p + 1) := by
  obtain ⟨h1, h2, h3⟩ := h
  refine ⟨fun a a3 a4 a5 => by rw [zs_other a3, zs_other a5, zs_other a4]; exact h1 a a3 a4 a5, fun j hj => ?_, fun j hj => ?_⟩
  · by_cases e : j = k
    · subst e
      have e3 : (σ (b + 3) j).toNat = p := by omega
      rw [e3]
      simp [zs_app, zu_app, hv]
    · have := h2 j ⟨hj.1, hj.2.1, by
        have := hj.2.2
        have hne : ¬ σ (b + 3) j = (p : Int) := fun z => e (hu j hj.1 hj.2.1 z)
        omega⟩
      simpa [zs_app, zu_app, e] using this
  · have e : j ≠ k := fun e => hj (by subst e; exact ⟨hk.1, hk.2.1, by omega⟩)
    have := h3 j (fun z => hj ⟨z.1, z.2.1, by omega⟩)
    simpa [zs_app, zu_app, e] using this
theorem zEn_rest {S : zSt} {ac : Nat → Int} {q p : Nat} (h : ∀ p', p ≤ p' → zch S q (p' : Int) = -1) : ∀ d, zEn S ac q (p + d) = zEn S ac q p
  | 0 => rfl
  | d + 1 => by rw [← Nat.add_assoc, zEn_s, if_pos (h _ (by omega)), zEn_rest h d]
theorem w_La_layOneBehindTheOther {G : zG} {X : zX} {n : Nat} {σ : zSt} {b c : Nat} (hn : 189 ≤ n) (hL : zLa SH c) (hS : zSw SH b) (hg : zGood σ b) (hbc : c + 6 ≤ b ∨ b + 10 ≤ c) {q : Nat} (hq : q < 12) (hpl : ∀ j, j < (σ b 0).toNat → σ (b + 2) j = q → 0 ≤ σ (b + 3) j ∧ σ (b + 3) j < 12 ∧ zch (zSv σ b) q (σ (b + 3) j) = j) (hcs : ∀ p p' : Nat, p ≤ p' → zch (zSv σ b) q p = -1 → zch (zSv σ b) q p' = -1) : ∀ (m : Nat) (p : Nat) (x3 x4 x5 : Int) (τ : zSt), x5 = (p : Int) + 1 → x4 = zch (zSv σ b) q p → x3 = zEn (zSv σ b) (σ (c + 2)) q p → zLE σ τ b c q p → p ≤ 12 → 12 < p + m → Go G X m_La_layOneBehindTheOther (1, 0, 0, 0, 0) n SH τ 13 [(0, vr G c), (1, vr G b), (2, vi (q : Int)), (3, vi x3), (4, vi x4), (5, vi x5)] [] (zI n SH (fun a σ' => a = zEn (zSv σ b) (σ (c + 2)) q 12 ∧ zLE σ σ' b c q 12)) := by
  intro m
  induction m with
  | zero => intro p x3 x4 x5 τ e5 e4 e3 ht hi hm; exact absurd hm (by omega)
  | succ m ih =>
    intro p x3 x4 x5 τ e5 e4 e3 ht hi hm
    have hb := hS.1
    have hcc := hL.1
    have hc := hg.1
    obtain ⟨u1, u2, u3⟩ := zLE_in ht hbc
    have tg := zGood_eq u1 hg
    have s0 : τ b 0 = σ b 0 := by rw [show τ b = σ b from u1 0 (by decide)]
    have rg : -1 ≤ zch (zSv σ b) q p ∧ zch (zSv σ b) q p < zN (zSv σ b) := zfst_range
    have rn : (zN (zSv σ b) : Int) ≤ 12 := by show (((σ b 0).toNat : Nat) : Int) ≤ 12; omega
    have sp : (zch (zSv σ b) q p = -1 ∧ ∀ k, k < zN (zSv σ b) → decide (zSv σ b 2 k = (q : Int) ∧ zSv σ b 3 k = (p : Int)) = false) ∨ ∃ i : Nat, zch (zSv σ b) q p = (i : Int) ∧ i < zN (zSv σ b) ∧ decide (zSv σ b 2 i = (q : Int) ∧ zSv σ b 3 i = (p : Int)) = true ∧ ∀ k, k < i → decide (zSv σ b 2 k = (q : Int) ∧ zSv σ b 3 k = (p : Int)) = false := zfst_spec
    have es : zEn (zSv σ b) (σ (c + 2)) q (p + 1) = _ := zEn_s _ _ _ _
    refine g_iload (i := 5) (by decide +kernel) rfl ?_
    refine g_bipush (a := 12) (by decide +kernel) (by decide) ?_
    refine g_icmp_gt (off := 73) (tgt := 90) (by decide +kernel) (by decide) ⟨by omega, by omega⟩ ⟨by omega, by omega⟩ (fun h17 => ?_) (fun h17 => ?_)
    · refine g_iload_n (i := 3) (by decide +kernel) rfl ?_
      refine g_retI (by decide +kernel) rfl (Or.inl rfl) ⟨by decide, by decide⟩ ?_
      first
        | (have hz : x4 = -1 := h23
           have hall : ∀ p' : Nat, p ≤ p' → zch (zSv σ b) q (p' : Int) = -1 := fun p' h => hcs p p' h (by omega)
           refine ⟨by rw [e3, show 12 = p + (12 - p) by omega, zEn_rest hall], ht.1, fun j hj => ht.2.1 j ⟨hj.1, hj.2.1, ?_⟩, fun j hj => ht.2.2 j (fun z => hj ⟨z.1, z.2.1, by omega⟩)⟩
           have w1 := hpl j hj.1 hj.2.1
           by_cases z : σ (b + 3) j < p
           · exact z
           · have w2 := hall (σ (b + 3) j).toNat (by omega)
             rw [show (((σ (b + 3) j).toNat : Nat) : Int) = σ (b + 3) j by omega, w1.2.2] at w2
             omega)
        | (rw [show p = 12 by omega] at ht e3
           exact ⟨e3, ht⟩)
    · refine g_iload (i := 4) (by decide +kernel) rfl ?_
      refine g_iconst (a := -1) (by decide +kernel) ?_
      refine g_icmp_eq (off := 67) (tgt := 90) (by decide +kernel) (by decide) ⟨by omega, by omega⟩ ⟨by omega, by omega⟩ (fun h23 => ?_) (fun h23 => ?_)
      · refine g_iload_n (i := 3) (by decide +kernel) rfl ?_
        refine g_retI (by decide +kernel) rfl (Or.inl rfl) ⟨by decide, by decide⟩ ?_
        first
          | (have hz : x4 = -1 := h23
             have hall : ∀ p' : Nat, p ≤ p' → zch (zSv σ b) q (p' : Int) = -1 := fun p' h => hcs p p' h (by omega)
             refine ⟨by rw [e3, show 12 = p + (12 - p) by omega, zEn_rest hall], ht.1, fun j hj => ht.2.1 j ⟨hj.1, hj.2.1, ?_⟩, fun j hj => ht.2.2 j (fun z => hj ⟨z.1, z.2.1, by omega⟩)⟩
             have w1 := hpl j hj.1 hj.2.1
             by_cases z : σ (b + 3) j < p
             · exact z
             · have w2 := hall (σ (b + 3) j).toNat (by omega)
               rw [show (((σ (b + 3) j).toNat : Nat) : Int) = σ (b + 3) j by omega, w1.2.2] at w2
               omega)
          | (rw [show p = 12 by omega] at ht e3
             exact ⟨e3, ht⟩)
      · obtain ⟨k, ek, hkN, hkp, -⟩ := sp.resolve_left (fun z => by omega)
        have hkp : σ (b + 2) k = q ∧ σ (b + 3) k = p := of_decide_eq_true hkp
        have hkN : k < (σ b 0).toNat := hkN
        have hku : ∀ j, j < (σ b 0).toNat → σ (b + 2) j = q → σ (b + 3) j = p → j = k := fun j h1 h2 h3 => by
          have := (hpl j h1 h2).2.2
          rw [h3, ek] at this
          omega
        have st1 := zLE_step (v := x3 + τ (b + 6) k) ht ⟨hkN, hkp⟩ hku (by rw [e3, u1 6 (by decide)])
        have hx4 : x4 = (k : Int) := by omega
        subst hx4
        rw [if_neg (by omega), ek, Int.toNat_natCast, show zSv σ b 6 k = σ (b + 6) k from rfl] at es
        refine g_aload_n (i := 0) (by decide +kernel) rfl ?_
        refine g_getr f_La_21 (by decide +kernel) (by omega) hL.a0 rfl ?_
        refine g_iload (i := 4) (by decide +kernel) rfl ?_
        refine g_iload (i := 4) (by decide +kernel) rfl ?_
        refine g_iast (j := k) (by decide +kernel) (by omega) hL.a4 rfl (by omega) (by decide) ?_
        refine g_aload_n (i := 0) (by decide +kernel) rfl ?_
        refine g_getr f_La_24 (by decide +kernel) (by omega) hL.a0 rfl ?_
        refine g_iload (i := 4) (by decide +kernel) rfl ?_
        refine g_iconst (a := 0) (by decide +kernel) ?_
        refine g_zast (j := k) (by decide +kernel) (by omega) hL.a5 rfl (by omega) (by decide) (by omega) ?_
        refine g_aload_n (i := 0) (by decide +kernel) rfl ?_
        refine g_getr f_La_18 (by decide +kernel) (by omega) hL.a0 rfl ?_
        refine g_iload (i := 4) (by decide +kernel) rfl ?_
        refine g_iload_n (i := 3) (by decide +kernel) rfl ?_
        refine g_aload_n (i := 1) (by decide +kernel) rfl ?_
        refine g_getr f_La_54 (by decide +kernel) (by omega) hS.a0 rfl ?_
        refine g_iload (i := 4) (by decide +kernel) rfl ?_
        refine g_iald (j := k) (by decide +kernel) (by omega) hS.a6 rfl (by omega) (by decide) ?_
        refine g_iadd (by decide +kernel) ?_
        refine g_iast (j := k) (by decide +kernel) (by omega) hL.a3 rfl (by omega) (by decide) ?_
        refine g_aload_n (i := 0) (by decide +kernel) rfl ?_
        refine g_getr f_La_18 (by decide +kernel) (by omega) hL.a0 rfl ?_
        refine g_iload (i := 4) (by decide +kernel) rfl ?_
        refine g_iald (j := k) (by decide +kernel) (by omega) hL.a3 rfl (by omega) (by decide) ?_
        refine g_aload_n (i := 0) (by decide +kernel) rfl ?_
        refine g_getr f_La_15 (by decide +kernel) (by omega) hL.a0 rfl ?_
        refine g_iload (i := 4) (by decide +kernel) rfl ?_
        refine g_iald (j := k) (by decide +kernel) (by omega) hL.a2 rfl (by omega) (by decide) ?_
        refine g_iadd (by decide +kernel) ?_
        refine g_istore_n (i := 3) (L' := [(0, _), (1, _), (2, _), (3, _), (4, _), (5, _)]) (by decide +kernel) rfl rfl ?_
        refine g_aload_n (i := 1) (by decide +kernel) rfl ?_
        refine g_iload_n (i := 2) (by decide +kernel) rfl ?_
        refine g_iload (i := 5) (by decide +kernel) rfl ?_
        obtain ⟨v1, v2, v3⟩ := zLE_in st1 hbc
        have tg1 := zGood_eq v1 hg
        refine g_eq (σ' := zs (zs (zs τ (c + 4) k k) (c + 5) k 0) (c + 3) k (x3 + τ (b + 6) k)) (st' := [vi (((p + 1 : Nat) : Nat) : Int), vi (q : Int), vr G b]) (L' := [(0, vr G c), (1, vr G b), (2, vi (q : Int)), (3, vi (zEn (zSv σ b) (σ (c + 2)) q (p + 1))), (4, vi (k : Int)), (5, vi x5)]) ?_ (by rw [zs_other (show b + 6 ≠ c + 5 by omega), zs_other (show b + 6 ≠ c + 4 by omega)]) (by rw [es, zs_eq, zs_other (show c + 2 ≠ c + 3 by omega), zs_other (show c + 2 ≠ c + 5 by omega), zs_other (show c + 2 ≠ c + 4 by omega), u2, zs_other (show b + 6 ≠ c + 5 by omega), zs_other (show b + 6 ≠ c + 4 by omega), u1 6 (by decide), e3]) (by rw [show (((p + 1 : Nat) : Nat) : Int) = x5 by omega])
        refine g_cVI (st := []) (c_Sh_childAt (k := (q : Int)) (p := (((p + 1 : Nat) : Nat) : Int)) hn hS tg1 ⟨by omega, by omega⟩ ⟨by omega, by omega⟩) k_Sh_childAt l_La_57 (by decide +kernel) (by omega) hS.a0 rfl rfl rfl (Nat.le_of_ble_eq_true rfl) (by decide) ⟨by decide, by decide⟩ ?_
        rintro a σ1 ⟨ea, hσ⟩
        obtain rfl := hσ.symm
        have ea : a = zch (zSv σ b) q ((p + 1 : Nat) : Int) := by
          rw [ea, v1 2 (by decide), v1 3 (by decide), show (zs (zs (zs τ (c + 4) k k) (c + 5) k 0) (c + 3) k (x3 + τ (b + 6) k)) b = σ b from v1 0 (by decide)]
          rfl
        refine g_istore (i := 4) (L' := [(0, _), (1, _), (2, _), (3, _), (4, _), (5, _)]) (by decide +kernel) rfl rfl ?_
        refine g_iinc (i := 5) (b := 1) (L' := [(0, _), (1, _), (2, _), (3, _), (4, _), (5, _)]) (by decide +kernel) rfl rfl rfl ?_
        refine g_goto (off := -74) (tgt := 13) (by decide +kernel) (by decide) ?_
        exact ih (p + 1) _ _ _ _ (by omega) ea rfl st1 (by omega) (by omega)
theorem c_La_layOneBehindTheOther {G : zG} {n : Nat} {σ : zSt} {b c : Nat} (hn : 189 ≤ n) (hL : zLa SH c) (hS : zSw SH b) (hg : zGood σ b) (hbc : c + 6 ≤ b ∨ b + 10 ≤ c) {q : Nat} (hq : q < 12) (hpl : ∀ j, j < (σ b 0).toNat → σ (b + 2) j = q → 0 ≤ σ (b + 3) j ∧ σ (b + 3) j < 12 ∧ zch (zSv σ b) q (σ (b + 3) j) = j) (hcs : ∀ p p' : Nat, p ≤ p' → zch (zSv σ b) q p = -1 → zch (zSv σ b) q p' = -1) : Gm G y_La_layOneBehindTheOther m_La_layOneBehindTheOther 1 0 0 [vr G c, vr G b, vi (q : Int)] n SH σ (zI n SH (fun a σ' => a = zEn (zSv σ b) (σ (c + 2)) q 12 ∧ zLE σ σ' b c q 12)) := by
  refine g_enter (L := [(0, _), (1, _), (2, _)]) (by decide) rfl rfl rfl (Nat.le_of_ble_eq_true rfl) (fun X => ?_)
  have hb := hS.1
  have hcc := hL.1
  have hc := hg.1
  have tg := hg
  refine g_iconst (a := 0) (by decide +kernel) ?_
  refine g_istore_n (i := 3) (L' := [(0, _), (1, _), (2, _), (3, _)]) (by decide +kernel) rfl rfl ?_
  refine g_aload_n (i := 1) (by decide +kernel) rfl ?_
  refine g_iload_n (i := 2) (by decide +kernel) rfl ?_
  refine g_iconst (a := 0) (by decide +kernel) ?_
  refine g_cVI (st := []) (c_Sh_childAt (k := (q : Int)) (p := 0) hn hS hg ⟨by omega, by omega⟩ ⟨by omega, by omega⟩) k_Sh_childAt l_La_57 (by decide +kernel) (by omega) hS.a0 rfl rfl rfl (Nat.le_of_ble_eq_true rfl) (by decide) ⟨by decide, by decide⟩ ?_
  rintro a σ1 ⟨ea, hσ⟩
  obtain rfl := hσ.symm
  refine g_istore (i := 4) (L' := [(0, _), (1, _), (2, _), (3, _), (4, _)]) (by decide +kernel) rfl rfl ?_
  refine g_iconst (a := 1) (by decide +kernel) ?_
  refine g_istore (i := 5) (L' := [(0, _), (1, _), (2, _), (3, _), (4, _), (5, _)]) (by decide +kernel) rfl rfl ?_
  exact w_La_layOneBehindTheOther hn hL hS hg hbc hq hpl hcs 13 0 _ _ _ σ rfl ea rfl ⟨fun _ _ _ _ => rfl, fun j hj => by have := hpl j hj.1 hj.2.1; omega, fun _ _ => ⟨rfl, rfl, rfl⟩⟩ (by omega) (by omega)
end
section
/-! HOW LONG AT MOST: what lies within a clip, all together -/
def zsum (p : Nat → Bool) (f : Nat → Int) : Nat → Int
  | 0 => 0
  | n + 1 => zsum p f n + (if p n = true then f n else 0)
theorem zsum_s (p : Nat → Bool) (f : Nat → Int) (n : Nat) : zsum p f (n + 1) = zsum p f n + (if p n = true then f n else 0) := rfl
theorem zsum_congr {p p' : Nat → Bool} {f f' : Nat → Int} : ∀ {n : Nat}, (∀ j, j < n → p j = p' j) → (∀ j, j < n → p j = true → f j = f' j) → zsum p f n = zsum p' f' n
  | 0, _, _ => rfl
  | n + 1, h, g => by
    rw [zsum_s, zsum_s, zsum_congr (fun j hj => h j (by omega)) (fun j hj => g j (by omega)), h n (by omega)]
    cases hp : p' n with
    | false => rfl
    | true => rw [if_pos rfl, if_pos rfl, g n (by omega) (by rw [h n (by omega)]; exact hp)]
theorem zsum_mono {p p' : Nat → Bool} {f : Nat → Int} : ∀ {n : Nat}, (∀ j, j < n → p j = true → p' j = true) → (∀ j, j < n → p' j = true → 0 ≤ f j) → zsum p f n ≤ zsum p' f n
  | 0, _, _ => Int.le_refl 0
  | n + 1, h, g => by
    have a := zsum_mono (f := f) (fun j hj => h j (by omega)) (fun j hj => g j (by omega)) (n := n)
    rw [zsum_s, zsum_s]
    cases hp : p n with
    | true => rw [h n (by omega) hp, if_pos rfl]; omega
    | false =>
      cases hp' : p' n with
      | false => simp; exact a
      | true => have := g n (by omega) hp'; simp; omega
theorem zsum_nonneg {p : Nat → Bool} {f : Nat → Int} : ∀ {n : Nat}, (∀ j, j < n → p j = true → 0 ≤ f j) → 0 ≤ zsum p f n
  | 0, _ => Int.le_refl 0
  | n + 1, g => by
    have a := zsum_nonneg (f := f) (fun j hj => g j (by omega)) (n := n)
    rw [zsum_s]
    split
    · have := g n (by omega) (by assumption); omega
    · omega
theorem zsum_insert {p p' : Nat → Bool} {f : Nat → Int} {k : Nat} (hk : p k = false) (hk' : p' k = true) : ∀ {n : Nat}, k < n → (∀ j, j < n → p j = true → p' j = true) → (∀ j, j < n → p' j = true → 0 ≤ f j) → zsum p f n + f k ≤ zsum p' f n
  | 0, h0, _, _ => by omega
  | n + 1, h0, h, g => by
    rw [zsum_s, zsum_s]
    rcases Nat.lt_or_ge k n with z | z
    · have a := zsum_insert hk hk' z (fun j hj => h j (by omega)) (fun j hj => g j (by omega))
      cases hp : p n with
      | true => rw [h n (by omega) hp, if_pos rfl]; omega
      | false =>
        cases hp' : p' n with
        | false => simp; exact a
        | true => have := g n (by omega) hp'; simp; omega
    · have e : n = k := by omega
      subst e
      have a := zsum_mono (f := f) (fun j hj => h j (by omega)) (fun j hj => g j (by omega)) (n := n)
      rw [hk, hk']; simp; exact a
theorem zsum_add {p q r : Nat → Bool} {f : Nat → Int} : ∀ {n : Nat}, (∀ j, j < n → r j = (p j || q j) ∧ (p j && q j) = false) → zsum r f n = zsum p f n + zsum q f n
  | 0, _ => rfl
  | n + 1, h => by
    rw [zsum_s, zsum_s, zsum_s, zsum_add (fun j hj => h j (by omega)) (n := n)]
    have := h n (by omega)
    rw [this.1]
    cases hp : p n with
    | true =>
      have h2 := this.2
      rw [hp] at h2
      simp at h2
      rw [h2]; simp; omega
    | false => cases hq : q n <;> simp <;> omega
theorem zsum_mul {p : Nat → Bool} {f : Nat → Int} (c : Int) : ∀ {n : Nat}, zsum p (fun j => f j * c) n = zsum p f n * c
  | 0 => by simp [zsum]
  | n + 1 => by
    rw [zsum_s, zsum_s, zsum_mul c, Int.add_mul]
    split <;> simp
/-- how much room a clip takes -/
def zF (S : zSt) (ac : Nat → Int) (j : Nat) : Int := S 6 j + ac j
def zCS (S : zSt) (ac : Nat → Int) (q : Int) : Int := zsum (fun j => decide (S 2 j = q)) (zF S ac) (zN S)
theorem zEn_le {S : zSt} {ac : Nat → Int} {q : Nat} (h0 : ∀ j, j < zN S → S 2 j = q → 0 ≤ zF S ac j) : ∀ p, zEn S ac q p ≤ zsum (fun j => decide (S 2 j = q ∧ S 3 j < (p : Int))) (zF S ac) (zN S)
  | 0 => by
    have := zsum_nonneg (p := fun j => decide (S 2 j = (q : Int) ∧ S 3 j < ((0 : Nat) : Int))) (f := zF S ac) (n := zN S) (fun j hj hp => h0 j hj (of_decide_eq_true hp).1)
    exact this
  | p + 1 => by
    have a := zEn_le h0 p
    rw [zEn_s]
    have hm : ∀ j, j < zN S → decide (S 2 j = (q : Int) ∧ S 3 j < (p : Int)) = true → decide (S 2 j = (q : Int) ∧ S 3 j < ((p + 1 : Nat) : Int)) = true := fun j _ h => decide_eq_true (by have := of_decide_eq_true h; omega)
    have hn : ∀ j, j < zN S → decide (S 2 j = (q : Int) ∧ S 3 j < ((p + 1 : Nat) : Int)) = true → 0 ≤ zF S ac j := fun j hj h => h0 j hj (of_decide_eq_true h).1
    split
    · exact Int.le_trans a (zsum_mono hm hn)
    · next hc =>
      have sp : (zch S q p = -1 ∧ ∀ k, k < zN S → decide (S 2 k = (q : Int) ∧ S 3 k = (p : Int)) = false) ∨ ∃ i : Nat, zch S q p = (i : Int) ∧ i < zN S ∧ decide (S 2 i = (q : Int) ∧ S 3 i = (p : Int)) = true ∧ ∀ k, k < i → decide (S 2 k = (q : Int) ∧ S 3 k = (p : Int)) = false := zfst_spec
      obtain ⟨i, e1, e2, e3, -⟩ := sp.resolve_left (fun z => hc z.1)
      have e3 := of_decide_eq_true e3
      rw [e1, Int.toNat_natCast]
      have b := zsum_insert (f := zF S ac) (k := i) (p := fun j => decide (S 2 j = (q : Int) ∧ S 3 j < (p : Int))) (p' := fun j => decide (S 2 j = (q : Int) ∧ S 3 j < ((p + 1 : Nat) : Int))) (decide_eq_false (by omega)) (decide_eq_true (by omega)) e2 hm hn
      unfold zF at a b ⊢
      omega
theorem zEn_le' {S : zSt} {ac : Nat → Int} {q : Nat} (h0 : ∀ j, j < zN S → S 2 j = q → 0 ≤ zF S ac j) (p : Nat) : zEn S ac q p ≤ zCS S ac q := Int.le_trans (zEn_le h0 p) (zsum_mono (fun j _ h => decide_eq_true (of_decide_eq_true h).1) (fun j hj h => h0 j hj (of_decide_eq_true h)))
theorem zEn_0 {S : zSt} {ac : Nat → Int} {q : Nat} (h0 : ∀ j, j < zN S → S 2 j = q → 0 ≤ zF S ac j) : ∀ p, 0 ≤ zEn S ac q p
  | 0 => Int.le_refl 0
  | p + 1 => by
    have a := zEn_0 h0 p
    rw [zEn_s]
    split
    · exact a
    · next hc =>
      have sp : (zch S q p = -1 ∧ ∀ k, k < zN S → decide (S 2 k = (q : Int) ∧ S 3 k = (p : Int)) = false) ∨ ∃ i : Nat, zch S q p = (i : Int) ∧ i < zN S ∧ decide (S 2 i = (q : Int) ∧ S 3 i = (p : Int)) = true ∧ ∀ k, k < i → decide (S 2 k = (q : Int) ∧ S 3 k = (p : Int)) = false := zfst_spec
      obtain ⟨i, e1, e2, e3, -⟩ := sp.resolve_left (fun z => hc z.1)
      have b := h0 i e2 (of_decide_eq_true e3).1
      rw [e1, Int.toNat_natCast]
      unfold zF at b
      omega
/-- the begin, by so many steps -/
def zBf (S : zSt) (ac : Nat → Int) (f k : Nat) : Int := zBw S ac f k + (if S 4 (zBs S f k) = 3 then 0 else S 6 (zBs S f k))
theorem zBf_s (S : zSt) (ac : Nat → Int) (f k : Nat) : zBf S ac (f + 1) k = if zby (S 4 k) = true then S 6 k + (if S 4 k = 2 then ac (S 5 k).toNat else 0) + zBf S ac f (S 5 k).toNat else (if S 4 k = 3 then 0 else S 6 k) := by
  unfold zBf
  rw [zBw_s, zBs_s]
  split
  · omega
  · omega
theorem zBf_12 (S : zSt) (ac : Nat → Int) (k : Nat) : zBf S ac 12 k = zBg S ac k := by
  unfold zBf zBg zOp
  simp only [decide_eq_true_eq]
/-- within q: the ways by others stay within, and don't come back -/
def zPar (S : zSt) (q : Nat) (r : Nat → Nat) : Prop := ∀ j, j < zN S → S 2 j = q → zby (S 4 j) = true → 0 ≤ S 5 j ∧ (S 5 j).toNat < zN S ∧ S 2 (S 5 j).toNat = q ∧ r (S 5 j).toNat < r j
theorem zBf_le {S : zSt} {ac : Nat → Int} {q : Nat} {r : Nat → Nat} (hp : zPar S q r) (h6 : ∀ j, j < zN S → 0 ≤ S 6 j) (ha : ∀ j, j < zN S → S 2 j = q → 0 ≤ ac j) : ∀ f k, k < zN S → S 2 k = q → 0 ≤ zBf S ac f k ∧ zBf S ac f k + ac k ≤ zsum (fun j => decide (S 2 j = q ∧ r j ≤ r k)) (zF S ac) (zN S) := by
  have h0 : ∀ j, j < zN S → S 2 j = q → 0 ≤ zF S ac j := fun j hj h => by have := h6 j hj; have := ha j hj h; unfold zF; omega
  have own : ∀ k, k < zN S → S 2 k = q → zF S ac k ≤ zsum (fun j => decide (S 2 j = (q : Int) ∧ r j ≤ r k)) (zF S ac) (zN S) := by
    intro k hk hq
    have := zsum_insert (f := zF S ac) (k := k) (p := fun _ => false) (p' := fun j => decide (S 2 j = (q : Int) ∧ r j ≤ r k)) (n := zN S) rfl (decide_eq_true ⟨hq, Nat.le_refl _⟩) hk (fun j _ h => by cases h) (fun j hj h => h0 j hj (of_decide_eq_true h).1)
    have z : ∀ n, zsum (fun _ => false) (zF S ac) n = 0 := fun n => by induction n with
      | zero => rfl
      | succ n ih => rw [zsum_s, ih]; rfl
    rw [z] at this
    omega
  intro f
  induction f with
  | zero =>
    intro k hk hq
    have a := own k hk hq
    have b := h6 k hk
    unfold zBf zBw zBs
    rw [show zF S ac k = S 6 k + ac k from rfl] at a
    split <;> omega
  | succ f ih =>
    intro k hk hq
    have a := own k hk hq
    have b := h6 k hk
    rw [zBf_s]
    split
    · next hb =>
      obtain ⟨g1, g2, g3, g4⟩ := hp k hk hq hb
      have c := ih _ g2 g3
      have d := ha _ g2 g3
      have e := zsum_insert (f := zF S ac) (k := k) (p := fun j => decide (S 2 j = (q : Int) ∧ r j ≤ r (S 5 k).toNat)) (p' := fun j => decide (S 2 j = (q : Int) ∧ r j ≤ r k)) (n := zN S) (decide_eq_false (by omega)) (decide_eq_true ⟨hq, Nat.le_refl _⟩) hk (fun j _ h => decide_eq_true (by have := of_decide_eq_true h; omega)) (fun j hj h => h0 j hj (of_decide_eq_true h).1)
      unfold zF at e c ⊢
      split <;> omega
    · rw [show zF S ac k = S 6 k + ac k from rfl] at a
      split <;> omega
theorem zBg_le {S : zSt} {ac : Nat → Int} {q : Nat} {r : Nat → Nat} (hp : zPar S q r) (h6 : ∀ j, j < zN S → 0 ≤ S 6 j) (ha : ∀ j, j < zN S → S 2 j = q → 0 ≤ ac j) {k : Nat} (hk : k < zN S) (hq : S 2 k = q) : 0 ≤ zBg S ac k ∧ zBg S ac k + ac k ≤ zCS S ac q := by
  have a := zBf_le hp h6 ha 12 k hk hq
  rw [zBf_12] at a
  refine ⟨a.1, Int.le_trans a.2 (zsum_mono (fun j _ h => decide_eq_true (of_decide_eq_true h).1) (fun j hj h => ?_))⟩
  have := h6 j hj
  have := ha j hj (of_decide_eq_true h)
  unfold zF
  omega
/-! the bound -/
/-- how deep a clip lies, by what is around it -/
def zDp (S : zSt) (d : Nat → Nat) : Prop := ∀ k, k < zN S → d k ≤ 4 ∧ ∀ j, j < zN S → S 2 j = k → d j = d k + 1
/-- a clip is valid as far as its length goes -/
def zMk (S : zSt) (k : Nat) : Prop := (0 ≤ S 7 (9 * k) ∧ S 7 (9 * k) ≤ 999) ∧ (1 ≤ S 7 (9 * k + 1) ∧ S 7 (9 * k + 1) ≤ 4) ∧ (1 ≤ S 7 (9 * k + 2) ∧ S 7 (9 * k + 2) ≤ 9) ∧ (0 ≤ S 7 (9 * k + 3) ∧ S 7 (9 * k + 3) ≤ 999) ∧ (0 ≤ S 6 k ∧ S 6 k ≤ 999)
theorem zAc_le {S : zSt} {k : Nat} {si : Int} (h : zMk S k) (h0 : 0 ≤ si) : 0 ≤ zAc S si k ∧ zAc S si k ≤ 9 * si := by
  obtain ⟨h1, h2, h3, h4, h5⟩ := h
  have p : si * S 7 (9 * k + 2) ≤ si * 9 := Int.mul_le_mul_of_nonneg_left h3.2 h0
  have p0 : 0 ≤ si * S 7 (9 * k + 2) := Int.mul_nonneg h0 (by omega)
  have w0 : 0 ≤ zAcW S si k := Int.ediv_nonneg (by omega) (by omega)
  have w1 : zAcW S si k ≤ si * S 7 (9 * k + 2) := by
    unfold zAcW
    apply Int.le_of_lt_add_one
    apply Int.ediv_lt_of_lt_mul (by omega)
    rw [Int.add_mul]
    have : si * S 7 (9 * k + 2) * 1 ≤ si * S 7 (9 * k + 2) * S 7 (9 * k + 1) := Int.mul_le_mul_of_nonneg_left h2.1 p0
    omega
  unfold zAc
  split <;> omega
/-- what stands at the top of all from k on takes not too much room -/
def zTop (S : zSt) (ac : Nat → Int) (d : Nat → Nat) (k : Nat) : Int := zsum (fun j => decide (k ≤ j ∧ S 2 j < k)) (fun j => zF S ac j * 9 ^ d j) (zN S)
theorem zpow_le {m : Nat} (h : m ≤ 4) : (1 : Int) ≤ 9 ^ m ∧ (9 : Int) ^ m ≤ 6561 := by
  rcases (by omega : m = 0 ∨ m = 1 ∨ m = 2 ∨ m = 3 ∨ m = 4) with rfl | rfl | rfl | rfl | rfl <;> decide
theorem zTop_child {S : zSt} {ac : Nat → Int} {d : Nat → Nat} {k : Nat} (hd : zDp S d) (ht : ∀ j, j < zN S → S 2 j < j) (hk : k < zN S) (h0 : ∀ j, j < zN S → k < j → 0 ≤ zF S ac j) : zCS S ac k * (9 * 9 ^ d k) ≤ zTop S ac d (k + 1) := by
  have e : zCS S ac k * (9 * 9 ^ d k) = zsum (fun j => decide (S 2 j = (k : Int))) (fun j => zF S ac j * 9 ^ d j) (zN S) := by
    unfold zCS
    rw [← zsum_mul]
    refine zsum_congr (fun _ _ => rfl) (fun j hj h => ?_)
    rw [(hd k hk).2 j hj (of_decide_eq_true h), Int.pow_succ, Int.mul_comm (9 ^ d k) 9]
  rw [e]
  refine zsum_mono (fun j hj h => decide_eq_true ?_) (fun j hj h => ?_)
  · have := of_decide_eq_true h
    have := ht j hj
    omega
  · have := of_decide_eq_true h
    exact Int.mul_nonneg (h0 j hj (by omega)) (Int.le_trans (by decide) (zpow_le (hd j hj).1).1)
theorem zTop_step {S : zSt} {ac : Nat → Int} {d : Nat → Nat} {k : Nat} (hd : zDp S d) (ht : ∀ j, j < zN S → S 2 j < j) (hk : k < zN S) (hF : zF S ac k ≤ 9990 + 9 * zCS S ac k) (h0 : ∀ j, j < zN S → k ≤ j → 0 ≤ zF S ac j) (h : zTop S ac d (k + 1) ≤ 65544390 * ((zN S : Int) - (k + 1))) : zTop S ac d k ≤ 65544390 * ((zN S : Int) - k) := by
  obtain ⟨w1, w2⟩ := zpow_le (hd k hk).1
  have e : zCS S ac k * (9 * 9 ^ d k) = zsum (fun j => decide (S 2 j = (k : Int))) (fun j => zF S ac j * 9 ^ d j) (zN S) := by
    unfold zCS
    rw [← zsum_mul]
    refine zsum_congr (fun _ _ => rfl) (fun j hj h => ?_)
    rw [(hd k hk).2 j hj (of_decide_eq_true h), Int.pow_succ, Int.mul_comm (9 ^ d k) 9]
  -- those at the top from k + 1 on: within k, or not
  have s1 : zTop S ac d (k + 1) = zsum (fun j => decide (k + 1 ≤ j ∧ S 2 j < k)) (fun j => zF S ac j * 9 ^ d j) (zN S) + zsum (fun j => decide (S 2 j = (k : Int))) (fun j => zF S ac j * 9 ^ d j) (zN S) := by
    refine zsum_add (fun j hj => ?_)
    have := ht j hj
    constructor
    · rw [Bool.eq_iff_iff]
      simp only [Bool.or_eq_true, decide_eq_true_eq]
      omega
    · rw [Bool.and_eq_false_iff, decide_eq_false_iff_not, decide_eq_false_iff_not]
      omega
  have s2 : zTop S ac d k = zsum (fun j => decide (k + 1 ≤ j ∧ S 2 j < k)) (fun j => zF S ac j * 9 ^ d j) (zN S) + zsum (fun j => decide (j = k)) (fun j => zF S ac j * 9 ^ d j) (zN S) := by
    refine zsum_add (fun j hj => ?_)
    have := ht j hj
    constructor
    · rw [Bool.eq_iff_iff]
      simp only [Bool.or_eq_true, decide_eq_true_eq]
      omega
    · rw [Bool.and_eq_false_iff, decide_eq_false_iff_not, decide_eq_false_iff_not]
      omega
  have s3 : ∀ n, k < n → zsum (fun j => decide (j = k)) (fun j => zF S ac j * 9 ^ d j) n = zF S ac k * 9 ^ d k := by
    intro n
    induction n with
    | zero => intro h; omega
    | succ n ih =>
      intro h
      rw [zsum_s]
      rcases Nat.lt_or_ge k n with z | z
      · rw [ih z, decide_eq_false (by omega)]; simp
      · have e : n = k := by omega
        subst e
        rw [decide_eq_true rfl, if_pos rfl]
        have z : ∀ i, i ≤ n → zsum (fun j => decide (j = n)) (fun j => zF S ac j * 9 ^ d j) i = 0 := by
          intro i
          induction i with
          | zero => intro _; rfl
          | succ i ih2 => intro hi; rw [zsum_s, ih2 (by omega), decide_eq_false (by omega)]; rfl
        rw [z n (Nat.le_refl n)]; omega
  have m1 : zF S ac k * 9 ^ d k ≤ (9990 + 9 * zCS S ac k) * 9 ^ d k := Int.mul_le_mul_of_nonneg_right hF (by omega)
  have m2 : (9990 + 9 * zCS S ac k) * 9 ^ d k = 9990 * 9 ^ d k + zCS S ac k * (9 * 9 ^ d k) := by
    rw [Int.add_mul, Int.mul_assoc, Int.mul_comm (zCS S ac k), ← Int.mul_assoc, Int.mul_comm (zCS S ac k)]
  rw [s2, s3 _ hk]
  rw [s1] at h
  omega
end
section
/-! A SHOW THAT HOLDS TOGETHER -/
def zVal (S : zSt) (d r : Nat → Nat) : Prop :=
  (zN S ≤ 12 ∧ zDp S d) ∧
  (∀ k, k < zN S → S 2 k < k ∧ -1 ≤ S 2 k ∧ (k = 0 ↔ S 2 k = -1)) ∧
  (∀ k, k < zN S → zMk S k ∧ (0 ≤ S 1 k ∧ S 1 k ≤ 2) ∧ (0 ≤ S 4 k ∧ S 4 k ≤ 3) ∧ (0 < k → S 1 (S 2 k).toNat ≠ 0) ∧ (S 4 k ≠ 0 → 0 < k ∧ S 1 (S 2 k).toNat = 1)) ∧
  (∀ q, q < zN S → zPar S q r) ∧
  (∀ k, k < zN S → 0 ≤ S 3 k ∧ S 3 k < 12 ∧ zch S (S 2 k) (S 3 k) = k) ∧ (∀ (q : Int) (p p' : Nat), p ≤ p' → zch S q p = -1 → zch S q p' = -1)
theorem zVal.tree {S : zSt} {d r : Nat → Nat} (h : zVal S d r) {j : Nat} (hj : j < zN S) : S 2 j < j := (h.2.1 j hj).1
/-! what is reckoned of a clip asks only those with greater numbers -/
theorem zEn_congr {S : zSt} {ac ac' : Nat → Int} {q : Nat} (h : ∀ j, j < zN S → S 2 j = q → ac j = ac' j) : ∀ p, zEn S ac q p = zEn S ac' q p
  | 0 => rfl
  | p + 1 => by
    rw [zEn_s, zEn_s, zEn_congr h p]
    have sp : (zch S q p = -1 ∧ ∀ k, k < zN S → decide (S 2 k = (q : Int) ∧ S 3 k = (p : Int)) = false) ∨ ∃ i : Nat, zch S q p = (i : Int) ∧ i < zN S ∧ decide (S 2 i = (q : Int) ∧ S 3 i = (p : Int)) = true ∧ ∀ k, k < i → decide (S 2 k = (q : Int) ∧ S 3 k = (p : Int)) = false := zfst_spec
    rcases sp with ⟨e, -⟩ | ⟨i, e1, e2, e3, -⟩
    · rw [if_pos e, if_pos e]
    · rw [if_neg (by omega), if_neg (by omega), e1, Int.toNat_natCast, h i e2 (of_decide_eq_true e3).1]
theorem zBw_congr {S : zSt} {ac ac' : Nat → Int} {q : Nat} {r : Nat → Nat} (hp : zPar S q r) (h : ∀ j, j < zN S → S 2 j = q → ac j = ac' j) : ∀ f k, k < zN S → S 2 k = q → zBw S ac f k = zBw S ac' f k
  | 0, _, _, _ => rfl
  | f + 1, k, hk, hq => by
    rw [zBw_s, zBw_s]
    split
    · next hb =>
      obtain ⟨g1, g2, g3, -⟩ := hp k hk hq hb
      rw [zBw_congr hp h f _ g2 g3, h _ g2 g3]
    · rfl
theorem zBg_congr {S : zSt} {ac ac' : Nat → Int} {q : Nat} {r : Nat → Nat} (hp : zPar S q r) (h : ∀ j, j < zN S → S 2 j = q → ac j = ac' j) {k : Nat} (hk : k < zN S) (hq : S 2 k = q) : zBg S ac k = zBg S ac' k := by
  unfold zBg; rw [zBw_congr hp h 12 k hk hq]
theorem zMx_congr {S : zSt} {ac ac' : Nat → Int} {q : Nat} {r : Nat → Nat} (hp : zPar S q r) (h : ∀ j, j < zN S → S 2 j = q → ac j = ac' j) : ∀ i, i ≤ zN S → zMx S ac q i = zMx S ac' q i
  | 0, _ => rfl
  | i + 1, hi => by
    rw [zMx_s, zMx_s, zMx_congr hp h i (by omega)]
    split
    · next z => rw [zBg_congr hp h (by omega) z.2.1, h i (by omega) z.2.1]
    · rfl
theorem zSi_congr {S : zSt} {ac ac' : Nat → Int} {d r : Nat → Nat} (hv : zVal S d r) {k : Nat} (hk : k < zN S) (h : ∀ j, j < zN S → k < j → ac j = ac' j) : zSi S ac k = zSi S ac' k := by
  have hc : ∀ j, j < zN S → S 2 j = k → ac j = ac' j := fun j hj e => h j hj (by have := hv.tree hj; omega)
  unfold zSi
  rw [zEn_congr hc 12, zMx_congr (hv.2.2.2.1 k hk) hc _ (Nat.le_refl _)]
/-- one layout alone -/
theorem zLay_uniq {S : zSt} {d r : Nat → Nat} (hv : zVal S d r) {si ac si' ac' : Nat → Int} (h : zLay S si ac) (h' : zLay S si' ac') : ∀ k, k < zN S → si k = si' k ∧ ac k = ac' k := by
  have key : ∀ m k, zN S ≤ k + m → k < zN S → si k = si' k ∧ ac k = ac' k := by
    intro m
    induction m with
    | zero => intro k h1 h2; omega
    | succ m ih =>
      intro k h1 h2
      have e : si k = si' k := by
        rw [(h k h2).1, (h' k h2).1]
        exact zSi_congr hv h2 (fun j hj hkj => (ih j (by omega) hj).2)
      exact ⟨e, by rw [(h k h2).2, (h' k h2).2, e]⟩
  exact fun k hk => key (zN S) k (by omega) hk
/-- laid from i on -/
def zLayFrom (S : zSt) (d : Nat → Nat) (si ac : Nat → Int) (i : Nat) : Prop := (∀ k, i ≤ k → k < zN S → si k = zSi S ac k ∧ ac k = zAc S (si k) k ∧ 0 ≤ si k ∧ 0 ≤ ac k) ∧ zTop S ac d i ≤ 65544390 * ((zN S : Int) - i)
theorem zCS_le {S : zSt} {d r : Nat → Nat} {si ac : Nat → Int} {k : Nat} (hv : zVal S d r) (hk : k < zN S) (h : zLayFrom S d si ac (k + 1)) : 0 ≤ zCS S ac k ∧ zCS S ac k ≤ 80109810 := by
  have hF : ∀ j, j < zN S → k < j → 0 ≤ zF S ac j := fun j hj hkj => by
    have a := (hv.2.2.1 j hj).1.2.2.2.2
    have b := (h.1 j (by omega) hj).2.2.2
    unfold zF; omega
  have a := zTop_child hv.1.2 (fun j hj => hv.tree hj) hk hF
  have b := h.2
  obtain ⟨w1, w2⟩ := zpow_le (hv.1.2 k hk).1
  have c0 : 0 ≤ zCS S ac k := zsum_nonneg (fun j hj hp => hF j hj (by have := hv.tree hj; have := of_decide_eq_true hp; omega))
  have m : zCS S ac k * 9 ≤ zCS S ac k * (9 * 9 ^ d k) := Int.mul_le_mul_of_nonneg_left (by omega) c0
  have hN := hv.1.1
  refine ⟨c0, ?_⟩
  push_cast at b
  omega
theorem zSi_le {S : zSt} {d r : Nat → Nat} {si ac : Nat → Int} {k : Nat} (hv : zVal S d r) (hk : k < zN S) (h : zLayFrom S d si ac (k + 1)) : 0 ≤ zSi S ac k ∧ zSi S ac k ≤ 80109810 ∧ zSi S ac k ≤ 999 + zCS S ac k := by
  have c := zCS_le hv hk h
  have hA : ∀ j, j < zN S → S 2 j = k → 0 ≤ ac j := fun j hj e => (h.1 j (by have := hv.tree hj; omega) hj).2.2.2
  have hF : ∀ j, j < zN S → S 2 j = k → 0 ≤ zF S ac j := fun j hj e => by
    have a := (hv.2.2.1 j hj).1.2.2.2.2
    have b := hA j hj e
    unfold zF; omega
  have e1 := zEn_0 hF 12
  have e2 := zEn_le' hF 12
  have m : ∀ i, i ≤ zN S → 0 ≤ zMx S ac k i ∧ zMx S ac k i ≤ zCS S ac k := by
    intro i
    induction i with
    | zero => intro _; exact ⟨Int.le_refl 0, c.1⟩
    | succ i ih =>
      intro hi
      have := ih (by omega)
      rw [zMx_s]
      split
      · next z =>
        have := zBg_le (hv.2.2.2.1 k hk) (fun j hj => (hv.2.2.1 j hj).1.2.2.2.2.1) hA (k := i) (by omega) z.2.1
        omega
      · exact this
  have m := m _ (Nat.le_refl _)
  have q := (hv.2.2.1 k hk).1.1
  unfold zSi
  split
  · omega
  · split
    · omega
    · split <;> omega
theorem zLayFrom_step {S : zSt} {d r : Nat → Nat} {si ac : Nat → Int} {k : Nat} (hv : zVal S d r) (hk : k < zN S) (h : zLayFrom S d si ac (k + 1)) (e1 : si k = zSi S ac k) (e2 : ac k = zAc S (si k) k) : zLayFrom S d si ac k := by
  have a := zSi_le hv hk h
  have b := zAc_le (hv.2.2.1 k hk).1 (si := si k) (by omega)
  have c := (hv.2.2.1 k hk).1.2.2.2.2
  have all : ∀ j, k ≤ j → j < zN S → si j = zSi S ac j ∧ ac j = zAc S (si j) j ∧ 0 ≤ si j ∧ 0 ≤ ac j := fun j h1 h2 => by
    rcases Nat.lt_or_ge k j with z | z
    · exact h.1 j z h2
    · rw [show j = k by omega]
      exact ⟨e1, e2, by omega, by omega⟩
  refine ⟨all, zTop_step hv.1.2 (fun j hj => hv.tree hj) hk ?_ (fun j h1 h2 => ?_) ?_⟩
  · unfold zF; omega
  · have := (hv.2.2.1 j h1).1.2.2.2.2
    have := (all j h2 h1).2.2.2
    unfold zF; omega
  · have := h.2
    push_cast at this
    omega
theorem zLay_from {S : zSt} {d r : Nat → Nat} (hv : zVal S d r) {si ac : Nat → Int} (h : zLay S si ac) : ∀ m i, i + m = zN S → zLayFrom S d si ac i
  | 0, i, e => ⟨fun k h1 h2 => by omega, by
      have : zTop S ac d i = 0 := by
        unfold zTop
        have z : ∀ n, n ≤ i → zsum (fun j => decide (i ≤ j ∧ S 2 j < i)) (fun j => zF S ac j * 9 ^ d j) n = 0 := by
          intro n
          induction n with
          | zero => intro _; rfl
          | succ n ih => intro hn; rw [zsum_s, ih (by omega), decide_eq_false (by omega)]; rfl
        exact z _ (by omega)
      rw [this]; omega⟩
  | m + 1, i, e => zLayFrom_step hv (by omega) (zLay_from hv h m (i + 1) (by omega)) (h i (by omega)).1 (h i (by omega)).2
/-- how great the lengths are -/
theorem zLay_bound {S : zSt} {d r : Nat → Nat} (hv : zVal S d r) {si ac : Nat → Int} (h : zLay S si ac) {k : Nat} (hk : k < zN S) : (0 ≤ si k ∧ si k ≤ 80109810) ∧ (0 ≤ ac k ∧ ac k ≤ 720988290) := by
  have a := zSi_le hv hk (zLay_from hv h (zN S - (k + 1)) (k + 1) (by omega))
  have b := zAc_le (hv.2.2.1 k hk).1 (si := si k) (by rw [(h k hk).1]; exact a.1)
  rw [(h k hk).1, (h k hk).2] at *
  rw [(h k hk).1] at *
  omega
end
section
/-- what measure leaves: the layout of the Show -/
def zMeas (σ σ' : zSt) (b c : Nat) : Prop := (∀ a, (a < c ∨ c + 6 ≤ a) → σ' a = σ a) ∧ zLay (zSv σ b) (σ' (c + 1)) (σ' (c + 2)) ∧
  (∀ k, k < (σ b 0).toNat → σ' (c + 3) k = zBe (zSv σ b) (σ' (c + 2)) k ∧ σ' (c + 4) k = (zBs (zSv σ b) 12 k : Int) ∧ σ' (c + 5) k = (if zOk (zSv σ b) k = true then 1 else 0)) ∧
  (∀ k, k < 12 → σ' (c + 5) k = 0 ∨ σ' (c + 5) k = 1) ∧ σ' c 5 = (if σ b 0 = 0 then 0 else σ (b + 6) 0 + σ' (c + 2) 0) ∧ ∀ j, j ≠ 5 → σ' c j = σ c j
/-- measured from i on -/
def zMi (σ τ : zSt) (b c i : Nat) (d : Nat → Nat) : Prop := (∀ a, (a < c ∨ c + 6 ≤ a) → τ a = σ a) ∧ zLayFrom (zSv σ b) d (τ (c + 1)) (τ (c + 2)) i ∧
  (∀ k, k < (σ b 0).toNat → (i : Int) ≤ σ (b + 2) k → τ (c + 3) k = zBe (zSv σ b) (τ (c + 2)) k ∧ τ (c + 4) k = (zBs (zSv σ b) 12 k : Int) ∧ τ (c + 5) k = (if zOk (zSv σ b) k = true then 1 else 0)) ∧
  (∀ k, k < 12 → τ (c + 5) k = 0 ∨ τ (c + 5) k = 1) ∧ τ c = zu (σ c) 5 0
theorem zMi_in {σ τ : zSt} {b c i : Nat} {d : Nat → Nat} (h : zMi σ τ b c i d) (hbc : c + 6 ≤ b ∨ b + 10 ≤ c) : ∀ r, r < 10 → τ (b + r) = σ (b + r) := fun r hr => h.1 _ (by omega)
theorem zBs_own {S : zSt} {k : Nat} (h : zby (S 4 k) = false) : ∀ f, zBs S f k = k
  | 0 => rfl
  | f + 1 => by rw [zBs_s, if_neg (by rw [h]; decide)]
/-- the rows of the ints that a Show's own methods ask stay -/
theorem zSv_fun {σ τ : zSt} {b : Nat} (h : ∀ r, r < 10 → τ (b + r) = σ (b + r)) : ∀ r, r < 10 → zSv τ b r = zSv σ b r := h
theorem zch_eq {S T : zSt} (h : ∀ r, r < 10 → T r = S r) (q p : Int) : zch T q p = zch S q p := by
  unfold zch zN; rw [h 0 (by decide), h 2 (by decide), h 3 (by decide)]
theorem zEn_eq {S T : zSt} {ac : Nat → Int} (h : ∀ r, r < 10 → T r = S r) (q : Nat) : ∀ p, zEn T ac q p = zEn S ac q p
  | 0 => rfl
  | p + 1 => by rw [zEn_s, zEn_s, zch_eq h, zEn_eq h q p, h 6 (by decide)]
theorem zMx_eq {S T : zSt} {ac : Nat → Int} (h : ∀ r, r < 10 → T r = S r) (q : Nat) : ∀ p, zMx T ac q p = zMx S ac q p
  | 0 => rfl
  | p + 1 => by rw [zMx_s, zMx_s, zMx_eq h q p, h 2 (by decide), zOp_eq h, zBg_eq h]
/-- the step: what is within k is laid, then k's own lengths -/
def zIns (S : zSt) (ac : Nat → Int) (k : Nat) : Int := if S 1 k = 2 then zEn S ac k 12 else zMx S ac k (zN S)
def zMst (σ τ : zSt) (b c k : Nat) : zSt := zs (zs τ (c + 1) k (zSi (zSv σ b) (τ (c + 2)) k)) (c + 2) k (zAc (zSv σ b) (zSi (zSv σ b) (τ (c + 2)) k) k)
theorem t_La_measure {G : zG} {X : zX} {n : Nat} {σ : zSt} {b c : Nat} (hn : 189 ≤ n) (hL : zLa SH c) (hS : zSw SH b) (hg : zGood σ b) (hbc : c + 6 ≤ b ∨ b + 10 ≤ c) {k : Nat} {d r : Nat → Nat} {τ : zSt} {post : zPost} (hv : zVal (zSv σ b) d r) (hk : k < (σ b 0).toNat) (u1 : ∀ r, r < 10 → τ (b + r) = σ (b + r)) (bd : 0 ≤ zSi (zSv σ b) (τ (c + 2)) k ∧ zSi (zSv σ b) (τ (c + 2)) k ≤ 80109810) (kk : Go G X m_La_measure (3, 0, 0, 0, 0) n SH (zMst σ τ b c k) 12 [(0, vr G c), (1, vr G b), (2, vi ((k : Int) - 1))] [] post) : Go G X m_La_measure (3, 0, 0, 0, 0) n SH τ 41 [(0, vr G c), (1, vr G b), (2, vi (k : Int))] [vi (zIns (zSv σ b) (τ (c + 2)) k)] post := by
  have hb := hS.1
  have hcc := hL.1
  have hc := hg.1
  have tg := zGood_eq u1 hg
  have hk12 : k < 12 := by omega
  have mk := (hv.2.2.1 k hk).1
  have m0 : τ (b + 7) (9 * k + 0) = zSv σ b 7 (9 * k) := by rw [u1 7 (by decide)]; rfl
  have m1 : τ (b + 7) (9 * k + 1) = zSv σ b 7 (9 * k + 1) := by rw [u1 7 (by decide)]; rfl
  have m2 : τ (b + 7) (9 * k + 2) = zSv σ b 7 (9 * k + 2) := by rw [u1 7 (by decide)]; rfl
  have k1 : τ (b + 1) k = zSv σ b 1 k := by rw [u1 1 (by decide)]; rfl
  obtain ⟨q0, q1, q2, q3, q4⟩ := mk
  have kd := hg.2.1 k hk12
  have k1b : zSv σ b 1 k = σ (b + 1) k := rfl
  have mulb : zSi (zSv σ b) (τ (c + 2)) k * zSv σ b 7 (9 * k + 2) ≤ zSi (zSv σ b) (τ (c + 2)) k * 9 := Int.mul_le_mul_of_nonneg_left q2.2 bd.1
  have mul0 : 0 ≤ zSi (zSv σ b) (τ (c + 2)) k * zSv σ b 7 (9 * k + 2) := Int.mul_nonneg bd.1 (by omega)
  refine g_istore_n (i := 3) (L' := [(0, _), (1, _), (2, _), (3, _)]) (by decide +kernel) rfl rfl ?_
  refine g_aload_n (i := 1) (by decide +kernel) rfl ?_
  refine g_iload_n (i := 2) (by decide +kernel) rfl ?_
  refine g_iconst (a := 0) (by decide +kernel) ?_
  refine g_cVI (st := []) (c_Sh_markOf (k := k) (w := 0) hn hS hk12 (by decide)) k_Sh_markOf l_La_47 (by decide +kernel) (by omega) hS.a0 rfl rfl rfl (Nat.le_of_ble_eq_true rfl) (by decide) ⟨by decide, by decide⟩ ?_
  rintro a σ1 ⟨ea, hσ⟩
  obtain rfl := hσ.symm
  rw [m0] at ea
  subst ea
  refine g_istore (i := 4) (L' := [(0, _), (1, _), (2, _), (3, _), (4, _)]) (by decide +kernel) rfl rfl ?_
  refine g_aload_n (i := 0) (by decide +kernel) rfl ?_
  refine g_getr f_La_9 (by decide +kernel) (by omega) hL.a0 rfl ?_
  refine g_iload_n (i := 2) (by decide +kernel) rfl ?_
  refine g_iload (i := 4) (by decide +kernel) rfl ?_
  refine g_if_le (off := 8) (tgt := 65) (by decide +kernel) (by decide) ⟨by omega, by omega⟩ (fun h57 => ?_) (fun h57 => ?_)
  · refine g_aload_n (i := 1) (by decide +kernel) rfl ?_
    refine g_getr f_La_37 (by decide +kernel) (by omega) hS.a0 rfl ?_
    refine g_iload_n (i := 2) (by decide +kernel) rfl ?_
    refine g_iald (j := k) (by decide +kernel) (by omega) hS.a1 rfl (by omega) (by decide) ?_
    refine g_if_ne (off := 8) (tgt := 79) (by decide +kernel) (by decide) ⟨by omega, by omega⟩ (fun h71 => ?_) (fun h71 => ?_)
    · have hsi : zIns (zSv σ b) (τ (c + 2)) k = zSi (zSv σ b) (τ (c + 2)) k := by unfold zSi; rw [if_neg (show ¬ 0 < zSv σ b 7 (9 * k) by omega), if_neg (show ¬ zSv σ b 1 k = 0 by omega)]; rfl
      refine g_iload_n (i := 3) (by decide +kernel) rfl ?_
      refine g_iast (j := k) (by decide +kernel) (by omega) hL.a1 rfl (by omega) (by decide) ?_
      refine g_aload_n (i := 0) (by decide +kernel) rfl ?_
      refine g_getr f_La_15 (by decide +kernel) (by omega) hL.a0 rfl ?_
      refine g_iload_n (i := 2) (by decide +kernel) rfl ?_
      refine g_aload_n (i := 0) (by decide +kernel) rfl ?_
      refine g_aload_n (i := 1) (by decide +kernel) rfl ?_
      refine g_iload_n (i := 2) (by decide +kernel) rfl ?_
      have hx : (zs τ (c + 1) k (zIns (zSv σ b) (τ (c + 2)) k)) = zs τ (c + 1) k (zSi (zSv σ b) (τ (c + 2)) k) := by rw [hsi]
      rw [hx]
      have v1 : ∀ r, r < 10 → zs τ (c + 1) k (zSi (zSv σ b) (τ (c + 2)) k) (b + r) = σ (b + r) := fun r hr => by rw [zs_other (by omega)]; exact u1 r hr
      refine g_cVI (st := [vi (k : Int), vr G (c + 2)]) (c_La_activeOf (k := k) hn hL hS (zGood_eq v1 hg) hbc hk12 (by rw [v1 7 (by decide)]; exact q1.1) (by rw [zs_eq, v1 7 (by decide)]; exact mul0) (by rw [zs_eq, v1 7 (by decide)]; show zSi (zSv σ b) (τ (c + 2)) k * zSv σ b 7 (9 * k + 2) ≤ 2000000000; omega)) k_La_activeOf l_La_51 (by decide +kernel) (by omega) hL.a0 rfl rfl rfl (Nat.le_of_ble_eq_true rfl) (by decide) ⟨by decide, by decide⟩ ?_
      rintro a σ1 ⟨ea, hσ⟩
      obtain rfl := hσ.symm
      have ea : a = zAc (zSv σ b) (zSi (zSv σ b) (τ (c + 2)) k) k := by
        rw [ea, zs_eq]
        unfold zAc zAcW
        rw [show zSv (zs τ (c + 1) k (zSi (zSv σ b) (τ (c + 2)) k)) b 7 = zSv σ b 7 from v1 7 (by decide)]
      subst ea
      refine g_iast (j := k) (by decide +kernel) (by omega) hL.a2 rfl (by omega) (by decide) ?_
      refine g_iinc (i := 2) (b := -1) (L' := [(0, _), (1, _), (2, _), (3, _), (4, _)]) (by decide +kernel) rfl rfl rfl ?_
      refine g_goto (off := -84) (tgt := 12) (by decide +kernel) (by decide) ?_
      refine g_less [0, 1, 2] rfl ?_
      exact kk
    · have hsi : 10 = zSi (zSv σ b) (τ (c + 2)) k := by unfold zSi; rw [if_neg (by omega), if_pos (by omega)]
      refine g_bipush (a := 10) (by decide +kernel) (by decide) ?_
      refine g_goto (off := 4) (tgt := 80) (by decide +kernel) (by decide) ?_
      refine g_iast (j := k) (by decide +kernel) (by omega) hL.a1 rfl (by omega) (by decide) ?_
      refine g_aload_n (i := 0) (by decide +kernel) rfl ?_
      refine g_getr f_La_15 (by decide +kernel) (by omega) hL.a0 rfl ?_
      refine g_iload_n (i := 2) (by decide +kernel) rfl ?_
      refine g_aload_n (i := 0) (by decide +kernel) rfl ?_
      refine g_aload_n (i := 1) (by decide +kernel) rfl ?_
      refine g_iload_n (i := 2) (by decide +kernel) rfl ?_
      have hx : (zs τ (c + 1) k (10)) = zs τ (c + 1) k (zSi (zSv σ b) (τ (c + 2)) k) := by rw [hsi]
      rw [hx]
      have v1 : ∀ r, r < 10 → zs τ (c + 1) k (zSi (zSv σ b) (τ (c + 2)) k) (b + r) = σ (b + r) := fun r hr => by rw [zs_other (by omega)]; exact u1 r hr
      refine g_cVI (st := [vi (k : Int), vr G (c + 2)]) (c_La_activeOf (k := k) hn hL hS (zGood_eq v1 hg) hbc hk12 (by rw [v1 7 (by decide)]; exact q1.1) (by rw [zs_eq, v1 7 (by decide)]; exact mul0) (by rw [zs_eq, v1 7 (by decide)]; show zSi (zSv σ b) (τ (c + 2)) k * zSv σ b 7 (9 * k + 2) ≤ 2000000000; omega)) k_La_activeOf l_La_51 (by decide +kernel) (by omega) hL.a0 rfl rfl rfl (Nat.le_of_ble_eq_true rfl) (by decide) ⟨by decide, by decide⟩ ?_
      rintro a σ1 ⟨ea, hσ⟩
      obtain rfl := hσ.symm
      have ea : a = zAc (zSv σ b) (zSi (zSv σ b) (τ (c + 2)) k) k := by
        rw [ea, zs_eq]
        unfold zAc zAcW
        rw [show zSv (zs τ (c + 1) k (zSi (zSv σ b) (τ (c + 2)) k)) b 7 = zSv σ b 7 from v1 7 (by decide)]
      subst ea
      refine g_iast (j := k) (by decide +kernel) (by omega) hL.a2 rfl (by omega) (by decide) ?_
      refine g_iinc (i := 2) (b := -1) (L' := [(0, _), (1, _), (2, _), (3, _), (4, _)]) (by decide +kernel) rfl rfl rfl ?_
      refine g_goto (off := -84) (tgt := 12) (by decide +kernel) (by decide) ?_
      refine g_less [0, 1, 2] rfl ?_
      exact kk
  · have hsi : zSv σ b 7 (9 * k) = zSi (zSv σ b) (τ (c + 2)) k := by unfold zSi; rw [if_pos h57]
    refine g_iload (i := 4) (by decide +kernel) rfl ?_
    refine g_goto (off := 18) (tgt := 80) (by decide +kernel) (by decide) ?_
    refine g_iast (j := k) (by decide +kernel) (by omega) hL.a1 rfl (by omega) (by decide) ?_
    refine g_aload_n (i := 0) (by decide +kernel) rfl ?_
    refine g_getr f_La_15 (by decide +kernel) (by omega) hL.a0 rfl ?_
    refine g_iload_n (i := 2) (by decide +kernel) rfl ?_
    refine g_aload_n (i := 0) (by decide +kernel) rfl ?_
    refine g_aload_n (i := 1) (by decide +kernel) rfl ?_
    refine g_iload_n (i := 2) (by decide +kernel) rfl ?_
    have hx : (zs τ (c + 1) k (zSv σ b 7 (9 * k))) = zs τ (c + 1) k (zSi (zSv σ b) (τ (c + 2)) k) := by rw [hsi]
    rw [hx]
    have v1 : ∀ r, r < 10 → zs τ (c + 1) k (zSi (zSv σ b) (τ (c + 2)) k) (b + r) = σ (b + r) := fun r hr => by rw [zs_other (by omega)]; exact u1 r hr
    refine g_cVI (st := [vi (k : Int), vr G (c + 2)]) (c_La_activeOf (k := k) hn hL hS (zGood_eq v1 hg) hbc hk12 (by rw [v1 7 (by decide)]; exact q1.1) (by rw [zs_eq, v1 7 (by decide)]; exact mul0) (by rw [zs_eq, v1 7 (by decide)]; show zSi (zSv σ b) (τ (c + 2)) k * zSv σ b 7 (9 * k + 2) ≤ 2000000000; omega)) k_La_activeOf l_La_51 (by decide +kernel) (by omega) hL.a0 rfl rfl rfl (Nat.le_of_ble_eq_true rfl) (by decide) ⟨by decide, by decide⟩ ?_
    rintro a σ1 ⟨ea, hσ⟩
    obtain rfl := hσ.symm
    have ea : a = zAc (zSv σ b) (zSi (zSv σ b) (τ (c + 2)) k) k := by
      rw [ea, zs_eq]
      unfold zAc zAcW
      rw [show zSv (zs τ (c + 1) k (zSi (zSv σ b) (τ (c + 2)) k)) b 7 = zSv σ b 7 from v1 7 (by decide)]
    subst ea
    refine g_iast (j := k) (by decide +kernel) (by omega) hL.a2 rfl (by omega) (by decide) ?_
    refine g_iinc (i := 2) (b := -1) (L' := [(0, _), (1, _), (2, _), (3, _), (4, _)]) (by decide +kernel) rfl rfl rfl ?_
    refine g_goto (off := -84) (tgt := 12) (by decide +kernel) (by decide) ?_
    refine g_less [0, 1, 2] rfl ?_
    exact kk
theorem zVal_eq {S T : zSt} {d r : Nat → Nat} (h : ∀ r, r < 10 → T r = S r) (hv : zVal S d r) : zVal T d r := by
  unfold zVal zDp zMk zPar zN at *
  simp only [zch_eq h, h 0 (by decide), h 1 (by decide), h 2 (by decide), h 3 (by decide), h 4 (by decide), h 5 (by decide), h 6 (by decide), h 7 (by decide)]
  exact hv
theorem zBe_congr {S : zSt} {ac ac' : Nat → Int} {d r : Nat → Nat} (hv : zVal S d r) {j : Nat} (hj : j < zN S) (h : ∀ i, i < zN S → S 2 i = S 2 j → ac i = ac' i) : zBe S ac j = zBe S ac' j := by
  have t := hv.2.1 j hj
  unfold zBe
  split
  · rfl
  · next e =>
    have e2 : (((S 2 j).toNat : Nat) : Int) = S 2 j := by omega
    have h' : ∀ i, i < zN S → S 2 i = (((S 2 j).toNat : Nat) : Int) → ac i = ac' i := fun i hi q => h i hi (by omega)
    rw [zEn_congr h', zBg_congr (hv.2.2.2.1 (S 2 j).toNat (by omega)) h' hj e2.symm]
theorem zMi_step {σ τ σ1 : zSt} {b c k : Nat} {d r : Nat → Nat} (hbc : c + 6 ≤ b ∨ b + 10 ≤ c) (hv : zVal (zSv σ b) d r) (hk : k < (σ b 0).toNat) (h : zMi σ τ b c (k + 1) d) (f0 : ∀ a, a ≠ c + 3 → a ≠ c + 4 → a ≠ c + 5 → σ1 a = τ a)
    (f1 : ∀ j, j < (σ b 0).toNat → σ (b + 2) j = k → σ1 (c + 3) j = zBe (zSv σ b) (τ (c + 2)) j ∧ σ1 (c + 4) j = (zBs (zSv σ b) 12 j : Int) ∧ σ1 (c + 5) j = (if zOk (zSv σ b) j = true then 1 else 0))
    (f2 : ∀ j, ¬ (j < (σ b 0).toNat ∧ σ (b + 2) j = k) → σ1 (c + 3) j = τ (c + 3) j ∧ σ1 (c + 4) j = τ (c + 4) j ∧ σ1 (c + 5) j = τ (c + 5) j) : zMi σ (zMst σ σ1 b c k) b c k d := by
  obtain ⟨h1, h2, h3, h4, h5⟩ := h
  have r1 : σ1 (c + 1) = τ (c + 1) := f0 _ (by omega) (by omega) (by omega)
  have r2 : σ1 (c + 2) = τ (c + 2) := f0 _ (by omega) (by omega) (by omega)
  have e1 : zMst σ σ1 b c k (c + 1) = zu (τ (c + 1)) k (zSi (zSv σ b) (τ (c + 2)) k) := by
    unfold zMst; rw [zs_other (by omega), zs_row, r1, r2]
  have e2 : zMst σ σ1 b c k (c + 2) = zu (τ (c + 2)) k (zAc (zSv σ b) (zSi (zSv σ b) (τ (c + 2)) k) k) := by
    unfold zMst; rw [zs_row, zs_other (by omega), r2]
  have e3 : ∀ a, a ≠ c + 1 → a ≠ c + 2 → zMst σ σ1 b c k a = σ1 a := fun a a1 a2 => by
    unfold zMst; rw [zs_other a2, zs_other a1]
  have ag : ∀ j, k < j → zMst σ σ1 b c k (c + 2) j = τ (c + 2) j := fun j hj => by rw [e2, zu_ne (by omega)]
  have hk' : k < zN (zSv σ b) := hk
  have L1 : zLayFrom (zSv σ b) d (zMst σ σ1 b c k (c + 1)) (zMst σ σ1 b c k (c + 2)) (k + 1) := by
    refine ⟨fun j j1 j2 => ?_, ?_⟩
    · have := h2.1 j j1 j2
      rw [e1, zu_ne (by omega), ag j (by omega), zSi_congr (ac' := τ (c + 2)) hv j2 (fun i _ hi => ag i (by omega))]
      exact this
    · have : zTop (zSv σ b) (zMst σ σ1 b c k (c + 2)) d (k + 1) = zTop (zSv σ b) (τ (c + 2)) d (k + 1) := by
        refine zsum_congr (fun _ _ => rfl) (fun j _ hj => ?_)
        have := of_decide_eq_true hj
        unfold zF
        rw [ag j (by omega)]
      rw [this]
      exact h2.2
  have sk : zSi (zSv σ b) (zMst σ σ1 b c k (c + 2)) k = zSi (zSv σ b) (τ (c + 2)) k := zSi_congr hv hk' (fun i _ hi => ag i hi)
  refine ⟨fun a ha => by rw [e3 a (by omega) (by omega), f0 a (by omega) (by omega) (by omega)]; exact h1 a ha, zLayFrom_step hv hk' L1 (by rw [sk, e1, zu_eq]) (by rw [e1, e2, zu_eq, zu_eq]), fun j hj hjk => ?_, fun j hj => ?_, by rw [e3 c (by omega) (by omega), f0 c (by omega) (by omega) (by omega)]; exact h5⟩
  · rw [e3 (c + 3) (by omega) (by omega), e3 (c + 4) (by omega) (by omega), e3 (c + 5) (by omega) (by omega)]
    have tj : σ (b + 2) j < j := hv.tree hj
    rw [zBe_congr (ac' := τ (c + 2)) hv hj (fun i hi q => ag i (by
      have ti : σ (b + 2) i < i := hv.tree hi
      have q : σ (b + 2) i = σ (b + 2) j := q
      omega))]
    by_cases q : σ (b + 2) j = k
    · exact f1 j hj q
    · have := f2 j (fun z => q z.2)
      rw [this.1, this.2.1, this.2.2]
      exact h3 j hj (by omega)
  · rw [e3 (c + 5) (by omega) (by omega)]
    by_cases q : j < (σ b 0).toNat ∧ σ (b + 2) j = k
    · rw [(f1 j q.1 q.2).2.2]; split <;> simp
    · rw [(f2 j q).2.2]; exact h4 j hj
theorem zMi_stepE {σ τ σ1 : zSt} {b c k : Nat} {d r : Nat → Nat} (hbc : c + 6 ≤ b ∨ b + 10 ≤ c) (hv : zVal (zSv σ b) d r) (hk : k < (σ b 0).toNat) (h : zMi σ τ b c (k + 1) d) (hkd : σ (b + 1) k = 2) (hs : zLE τ σ1 b c k 12) : zMi σ (zMst σ σ1 b c k) b c k d := by
  have u1 := zMi_in h hbc
  have u0 : τ b 0 = σ b 0 := by rw [show τ b = σ b from u1 0 (by decide)]
  obtain ⟨s0, s1, s2⟩ := hs
  rw [u0, u1 2 (by decide), u1 3 (by decide)] at s1 s2
  refine zMi_step hbc hv hk h s0 (fun j hj hjk => ?_) (fun j hj => s2 j (fun z => hj ⟨z.1, z.2.1⟩))
  have pj : 0 ≤ σ (b + 3) j ∧ σ (b + 3) j < 12 ∧ _ := hv.2.2.2.2.1 j hj
  have vj := hv.2.2.1 j hj
  have v4 : zSv σ b 4 j = 0 := by
    by_cases z : zSv σ b 4 j = 0
    · exact z
    · have := (vj.2.2.2.2 z).2
      rw [show (zSv σ b 2 j).toNat = k by show (σ (b + 2) j).toNat = k; omega] at this
      have : σ (b + 1) k = 1 := this
      omega
  have a := s1 j ⟨hj, hjk, by omega⟩
  rw [a.1, a.2.1, a.2.2, zBs_own (by rw [v4]; rfl), zEn_eq (zSv_fun u1), u1 6 (by decide)]
  unfold zBe zOk
  have q1 : ¬ zSv σ b 2 j = -1 := by show ¬ σ (b + 2) j = -1; omega
  have q2 : (zSv σ b 2 j).toNat = k := by show (σ (b + 2) j).toNat = k; omega
  rw [if_neg q1, if_neg q1, q2, if_pos (show zSv σ b 1 k = 2 from hkd), if_pos (show zSv σ b 1 k = 2 from hkd)]
  exact ⟨rfl, rfl, rfl⟩
theorem zMi_stepQ {σ τ σ1 : zSt} {b c k : Nat} {d r : Nat → Nat} (hbc : c + 6 ≤ b ∨ b + 10 ≤ c) (hv : zVal (zSv σ b) d r) (hk : k < (σ b 0).toNat) (h : zMi σ τ b c (k + 1) d) (hkd : σ (b + 1) k ≠ 2) (hs : zLQ τ σ1 b c k (σ b 0).toNat) : zMi σ (zMst σ σ1 b c k) b c k d := by
  have u1 := zMi_in h hbc
  obtain ⟨s0, s1, s2⟩ := hs
  rw [u1 2 (by decide)] at s1 s2
  refine zMi_step hbc hv hk h s0 (fun j hj hjk => ?_) (fun j hj => s2 j (fun z => hj ⟨z.1, z.2.2⟩))
  have tj : σ (b + 2) j < j := hv.tree hj
  have a := s1 j ⟨hj, by omega, hjk⟩
  rw [a.1, a.2.1, a.2.2, zBg_eq (zSv_fun u1), zBs_eq (zSv_fun u1), zOp_eq (zSv_fun u1)]
  unfold zBe zOk
  have q1 : ¬ zSv σ b 2 j = -1 := by show ¬ σ (b + 2) j = -1; omega
  have q2 : (zSv σ b 2 j).toNat = k := by show (σ (b + 2) j).toNat = k; omega
  rw [if_neg q1, if_neg q1, q2, if_neg (show ¬ zSv σ b 1 k = 2 from hkd), if_neg (show ¬ zSv σ b 1 k = 2 from hkd)]
  exact ⟨rfl, rfl, rfl⟩
theorem zLayFrom_eq {S T : zSt} {d : Nat → Nat} {si ac : Nat → Int} {i : Nat} (h : ∀ r, r < 10 → T r = S r) (hl : zLayFrom S d si ac i) : zLayFrom T d si ac i := by
  have a : ∀ k, zSi T ac k = zSi S ac k := fun k => by
    unfold zSi zN; rw [zEn_eq h, zMx_eq h, h 0 (by decide), h 1 (by decide), h 7 (by decide)]
  have b : ∀ x k, zAc T x k = zAc S x k := fun x k => by unfold zAc zAcW; rw [h 7 (by decide)]
  have c : zTop T ac d i = zTop S ac d i := by unfold zTop zF zN; rw [h 0 (by decide), h 2 (by decide), h 6 (by decide)]
  unfold zLayFrom zN at *
  simp only [a, b, c, h 0 (by decide)]
  exact hl
theorem zMeas_0 {σ τ : zSt} {b c : Nat} {d r : Nat → Nat} (ht : zMi σ τ b c 0 d) (hv : zVal (zSv σ b) d r) (h0 : σ b 0 = 0) : zMeas σ τ b c := by
  obtain ⟨h1, h2, h3, h4, h5⟩ := ht
  have hn : zN (zSv σ b) = 0 := by show (σ b 0).toNat = 0; omega
  exact ⟨h1, fun k hk => by omega, fun k hk => by omega, h4, by rw [h5, zu_eq, if_pos h0], fun j hj => by rw [h5, zu_ne hj]⟩
theorem zMeas_1 {σ τ : zSt} {b c : Nat} {d r : Nat → Nat} (hbc : c + 6 ≤ b ∨ b + 10 ≤ c) (ht : zMi σ τ b c 0 d) (hv : zVal (zSv σ b) d r) (h0 : 0 < σ b 0) {v w : Int} (hv6 : v = σ (b + 6) 0) (hw : w = σ (b + 6) 0 + τ (c + 2) 0) : zMeas σ (zs (zs (zs (zs τ (c + 4) 0 0) (c + 5) 0 0) (c + 3) 0 v) c 5 w) b c := by
  obtain ⟨h1, h2, h3, h4, h5⟩ := ht
  have hn : 0 < zN (zSv σ b) := by show 0 < (σ b 0).toNat; omega
  have e1 : zs (zs (zs (zs τ (c + 4) 0 0) (c + 5) 0 0) (c + 3) 0 v) c 5 w (c + 1) = τ (c + 1) := by rw [zs_other (by omega), zs_other (by omega), zs_other (by omega), zs_other (by omega)]
  have e2 : zs (zs (zs (zs τ (c + 4) 0 0) (c + 5) 0 0) (c + 3) 0 v) c 5 w (c + 2) = τ (c + 2) := by rw [zs_other (by omega), zs_other (by omega), zs_other (by omega), zs_other (by omega)]
  have r0 : zSv σ b 2 0 = -1 := (hv.2.1 0 hn).2.2.mp rfl
  have s0 : zSv σ b 4 0 = 0 := by
    by_cases z : zSv σ b 4 0 = 0
    · exact z
    · have := ((hv.2.2.1 0 hn).2.2.2.2 z).1; omega
  unfold zMeas
  rw [e1, e2]
  refine ⟨fun a ha => by rw [zs_other (by omega), zs_other (by omega), zs_other (by omega), zs_other (by omega)]; exact h1 a ha, fun k hk => ⟨(h2.1 k (by omega) hk).1, (h2.1 k (by omega) hk).2.1⟩, fun k hk => ?_, fun k hk => ?_, ?_, fun j hj => ?_⟩
  · by_cases e : k = 0
    · subst e
      rw [zBs_own (by rw [s0]; rfl)]
      unfold zBe zOk
      rw [if_pos r0, if_pos r0, show zSv σ b 6 0 = σ (b + 6) 0 from rfl, ← hv6]
      simp [zs_app, zu_app]
    · have t := hv.2.1 k hk
      have := h3 k hk (by have z : ¬ zSv σ b 2 k = -1 := fun q => e (t.2.2.mpr q); have : zSv σ b 2 k = σ (b + 2) k := rfl; omega)
      simpa [zs_app, zu_app, e] using this
  · by_cases e : k = 0
    · subst e; simp [zs_app, zu_app]
    · have := h4 k hk
      simpa [zs_app, zu_app, e] using this
  · rw [zs_eq, if_neg (by omega), hw]
  · rw [zs_row, zu_ne hj, zs_other (by omega), zs_other (by omega), zs_other (by omega), h5, zu_ne hj]
theorem w_La_measure {G : zG} {X : zX} {n : Nat} {σ : zSt} {b c : Nat} (hn : 189 ≤ n) (hL : zLa SH c) (hS : zSw SH b) (hg : zGood σ b) (hbc : c + 6 ≤ b ∨ b + 10 ≤ c) {d r : Nat → Nat} (hv : zVal (zSv σ b) d r) : ∀ (m : Nat) (i : Nat) (x2 : Int) (τ : zSt), x2 = (i : Int) - 1 → zMi σ τ b c i d → i ≤ (σ b 0).toNat → i < m → Go G X m_La_measure (3, 0, 0, 0, 0) n SH τ 12 [(0, vr G c), (1, vr G b), (2, vi x2)] [] (zV n SH (fun σ' => zMeas σ σ' b c)) := by
  intro m
  induction m with
  | zero => intro i x2 τ e2 ht hi hm; exact absurd hm (by omega)
  | succ m ih =>
    intro i x2 τ e2 ht hi hm
    have hb := hS.1
    have hcc := hL.1
    have hc := hg.1
    have u1 := zMi_in ht hbc
    have u0 : τ b 0 = σ b 0 := by rw [show τ b = σ b from u1 0 (by decide)]
    have tg := zGood_eq u1 hg
    refine g_iload_n (i := 2) (by decide +kernel) rfl ?_
    refine g_if_lt (off := 86) (tgt := 99) (by decide +kernel) (by decide) ⟨by omega, by omega⟩ (fun h13 => ?_) (fun h13 => ?_)
    · have e0 : i = 0 := by omega
      subst e0
      refine g_aload_n (i := 1) (by decide +kernel) rfl ?_
      refine g_geti f_La_32 (by decide +kernel) (by omega) hS.a0 rfl ?_
      refine g_if_le (off := 46) (tgt := 149) (by decide +kernel) (by decide) ⟨by omega, by omega⟩ (fun h103 => ?_) (fun h103 => ?_)
      · refine g_retV (by decide +kernel) rfl ⟨by decide, by decide⟩ ?_
        first
          | (have hz : τ b 0 ≤ 0 := h103
             exact zMeas_0 ht hv (by omega))
          | exact zMeas_1 hbc ht hv (by omega) (by simp [zs_app, t6]; rw [if_neg (by omega), if_neg (by omega)]; exact t6) (by simp [zs_app, zu_app]; rw [if_neg (by omega), if_neg (by omega)]; exact t6)
      · have t6 : τ (b + 6) 0 = σ (b + 6) 0 := by rw [u1 6 (by decide)]
        refine g_aload_n (i := 0) (by decide +kernel) rfl ?_
        refine g_getr f_La_21 (by decide +kernel) (by omega) hL.a0 rfl ?_
        refine g_iconst (a := 0) (by decide +kernel) ?_
        refine g_iconst (a := 0) (by decide +kernel) ?_
        refine g_iast (j := 0) (by decide +kernel) (by omega) hL.a4 rfl (by omega) (by decide) ?_
        refine g_aload_n (i := 0) (by decide +kernel) rfl ?_
        refine g_getr f_La_24 (by decide +kernel) (by omega) hL.a0 rfl ?_
        refine g_iconst (a := 0) (by decide +kernel) ?_
        refine g_iconst (a := 0) (by decide +kernel) ?_
        refine g_zast (j := 0) (by decide +kernel) (by omega) hL.a5 rfl (by omega) (by decide) (by omega) ?_
        refine g_aload_n (i := 0) (by decide +kernel) rfl ?_
        refine g_getr f_La_18 (by decide +kernel) (by omega) hL.a0 rfl ?_
        refine g_iconst (a := 0) (by decide +kernel) ?_
        refine g_aload_n (i := 1) (by decide +kernel) rfl ?_
        refine g_getr f_La_54 (by decide +kernel) (by omega) hS.a0 rfl ?_
        refine g_iconst (a := 0) (by decide +kernel) ?_
        refine g_iald (j := 0) (by decide +kernel) (by omega) hS.a6 rfl (by omega) (by decide) ?_
        refine g_iast (j := 0) (by decide +kernel) (by omega) hL.a3 rfl (by omega) (by decide) ?_
        refine g_aload_n (i := 0) (by decide +kernel) rfl ?_
        refine g_aload_n (i := 0) (by decide +kernel) rfl ?_
        refine g_getr f_La_18 (by decide +kernel) (by omega) hL.a0 rfl ?_
        refine g_iconst (a := 0) (by decide +kernel) ?_
        refine g_iald (j := 0) (by decide +kernel) (by omega) hL.a3 rfl (by omega) (by decide) ?_
        refine g_aload_n (i := 0) (by decide +kernel) rfl ?_
        refine g_getr f_La_15 (by decide +kernel) (by omega) hL.a0 rfl ?_
        refine g_iconst (a := 0) (by decide +kernel) ?_
        refine g_iald (j := 0) (by decide +kernel) (by omega) hL.a2 rfl (by omega) (by decide) ?_
        refine g_iadd (by decide +kernel) ?_
        refine g_puti f_La_28 (by decide +kernel) (by omega) hL.a0 rfl ?_
        refine g_retV (by decide +kernel) rfl ⟨by decide, by decide⟩ ?_
        first
          | (have hz : τ b 0 ≤ 0 := h103
             exact zMeas_0 ht hv (by omega))
          | exact zMeas_1 hbc ht hv (by omega) (by simp [zs_app, t6]; rw [if_neg (by omega), if_neg (by omega)]; exact t6) (by simp [zs_app, zu_app]; rw [if_neg (by omega), if_neg (by omega)]; exact t6)
    · obtain ⟨k, rfl⟩ : ∃ k, i = k + 1 := ⟨i - 1, by omega⟩
      have ex : x2 = (k : Int) := by omega
      subst ex
      have hk : k < (σ b 0).toNat := by omega
      have kd := hg.2.1 k (by omega)
      have k1 : τ (b + 1) k = σ (b + 1) k := by rw [u1 1 (by decide)]
      have hvT := zVal_eq (zSv_fun u1) hv
      have hkT : k < zN (zSv τ b) := by show k < (τ b 0).toNat; omega
      have bd := zSi_le hv hk ht.2.1
      have lfT : zLayFrom (zSv τ b) d (τ (c + 1)) (τ (c + 2)) (k + 1) := zLayFrom_eq (zSv_fun u1) ht.2.1
      refine g_aload_n (i := 1) (by decide +kernel) rfl ?_
      refine g_getr f_La_37 (by decide +kernel) (by omega) hS.a0 rfl ?_
      refine g_iload_n (i := 2) (by decide +kernel) rfl ?_
      refine g_iald (j := k) (by decide +kernel) (by omega) hS.a1 rfl (by omega) (by decide) ?_
      refine g_iconst (a := 2) (by decide +kernel) ?_
      refine g_icmp_ne (off := 12) (tgt := 35) (by decide +kernel) (by decide) ⟨by omega, by omega⟩ ⟨by omega, by omega⟩ (fun h23 => ?_) (fun h23 => ?_)
      · refine g_aload_n (i := 0) (by decide +kernel) rfl ?_
        refine g_aload_n (i := 1) (by decide +kernel) rfl ?_
        refine g_iload_n (i := 2) (by decide +kernel) rfl ?_
        refine g_cVI (st := []) (c_La_layAtOnce (q := k) hn hL hS tg hbc (by omega) (fun j hj hq hb => by
          have := hvT.2.2.2.1 k hkT j hj hq hb
          exact ⟨this.1, this.2.1, this.2.2.1⟩) (fun j hj hq _ => by
          have z := zBg_le (ac := τ (c + 2)) (hvT.2.2.2.1 k hkT) (fun i hi => (hvT.2.2.1 i hi).1.2.2.2.2.1) (fun i hi e => (lfT.1 i (by have := hvT.tree hi; omega) hi).2.2.2) hj hq
          have z2 := zCS_le hvT hkT lfT
          have z3 := (lfT.1 j (by have := hvT.tree hj; have hq : zSv τ b 2 j = (k : Int) := hq; omega) hj).2.2.2
          omega)) k_La_layAtOnce l_La_44 (by decide +kernel) (by omega) hL.a0 rfl rfl rfl (Nat.le_of_ble_eq_true rfl) (by decide) ⟨by decide, by decide⟩ ?_
        rintro a σ1 ⟨ea, hs⟩
        obtain ⟨w1, w2, w3⟩ := zLQ_in hs hbc
        rw [u0] at ea hs
        have ea : a = zIns (zSv σ b) (σ1 (c + 2)) k := by
          unfold zIns
          rw [ea, if_neg (show ¬ zSv σ b 1 k = 2 by show ¬ σ (b + 1) k = 2; omega), w2, zMx_eq (zSv_fun u1)]
          rfl
        subst ea
        exact t_La_measure hn hL hS hg hbc hv hk (fun r hr => by rw [w1 r hr]; exact u1 r hr) (by rw [w2]; exact ⟨bd.1, bd.2.1⟩) (ih k _ _ rfl (zMi_stepQ hbc hv hk ht (by omega) hs) (by omega) (by omega))
      · refine g_aload_n (i := 0) (by decide +kernel) rfl ?_
        refine g_aload_n (i := 1) (by decide +kernel) rfl ?_
        refine g_iload_n (i := 2) (by decide +kernel) rfl ?_
        refine g_cVI (st := []) (c_La_layOneBehindTheOther (q := k) hn hL hS tg hbc (by omega) (fun j hj hq => by
          have := hvT.2.2.2.2.1 j hj
          rw [show zSv τ b 2 j = (k : Int) from hq] at this
          exact this) (fun p p' => hvT.2.2.2.2.2 k p p')) k_La_layOneBehindTheOther l_La_40 (by decide +kernel) (by omega) hL.a0 rfl rfl rfl (Nat.le_of_ble_eq_true rfl) (by decide) ⟨by decide, by decide⟩ ?_
        rintro a σ1 ⟨ea, hs⟩
        obtain ⟨w1, w2, w3⟩ := zLE_in hs hbc
        have ea : a = zIns (zSv σ b) (σ1 (c + 2)) k := by
          unfold zIns
          rw [ea, if_pos (show zSv σ b 1 k = 2 by show σ (b + 1) k = 2; omega), w2, zEn_eq (zSv_fun u1)]
        subst ea
        refine g_goto (off := 9) (tgt := 41) (by decide +kernel) (by decide) ?_
        exact t_La_measure hn hL hS hg hbc hv hk (fun r hr => by rw [w1 r hr]; exact u1 r hr) (by rw [w2]; exact ⟨bd.1, bd.2.1⟩) (ih k _ _ rfl (zMi_stepE hbc hv hk ht (by omega) hs) (by omega) (by omega))
theorem c_La_measure {G : zG} {n : Nat} {σ : zSt} {b c : Nat} (hn : 189 ≤ n) (hL : zLa SH c) (hS : zSw SH b) (hg : zGood σ b) (hbc : c + 6 ≤ b ∨ b + 10 ≤ c) {d r : Nat → Nat} (hv : zVal (zSv σ b) d r) (hop : ∀ k, k < 12 → σ (c + 5) k = 0 ∨ σ (c + 5) k = 1) : Gm G y_La_measure m_La_measure 3 0 0 [vr G c, vr G b] n SH σ (zV n SH (fun σ' => zMeas σ σ' b c)) := by
  refine g_enter (L := [(0, _), (1, _)]) (by decide) rfl rfl rfl (Nat.le_of_ble_eq_true rfl) (fun X => ?_)
  have hb := hS.1
  have hcc := hL.1
  have hc := hg.1
  refine g_aload_n (i := 0) (by decide +kernel) rfl ?_
  refine g_iconst (a := 0) (by decide +kernel) ?_
  refine g_puti f_La_28 (by decide +kernel) (by omega) hL.a0 rfl ?_
  refine g_aload_n (i := 1) (by decide +kernel) rfl ?_
  refine g_geti f_La_32 (by decide +kernel) (by omega) hS.a0 rfl ?_
  refine g_iconst (a := 1) (by decide +kernel) ?_
  refine g_isub (by decide +kernel) ?_
  refine g_istore_n (i := 2) (L' := [(0, _), (1, _), (2, _)]) (by decide +kernel) rfl rfl ?_
  rw [zs_other (show b ≠ c by omega)]
  refine w_La_measure hn hL hS hg hbc hv ((σ b 0).toNat + 1) (σ b 0).toNat _ _ (by omega) ⟨fun a ha => zs_other (by omega), ?_, fun k hk hk2 => ?_, fun k hk => ?_, zs_row _ _ _ _⟩ (by omega) (by omega)
  · refine ⟨fun k h1 h2 => ?_, ?_⟩
    · have : k < (σ b 0).toNat := h2
      omega
    · have z : ∀ n, n ≤ (σ b 0).toNat → zsum (fun j => decide ((σ b 0).toNat ≤ j ∧ zSv σ b 2 j < ((σ b 0).toNat : Nat))) (fun j => zF (zSv σ b) (zs σ c 5 0 (c + 2)) j * 9 ^ d j) n = 0 := by
        intro n
        induction n with
        | zero => intro _; rfl
        | succ n ih => intro h; rw [zsum_s, ih (by omega), decide_eq_false (by omega)]; rfl
      have e : zTop (zSv σ b) (zs σ c 5 0 (c + 2)) d (σ b 0).toNat = 0 := z _ (Nat.le_refl _)
      rw [e]
      have : zN (zSv σ b) = (σ b 0).toNat := rfl
      omega
  · have : σ (b + 2) k < k := hv.tree hk
    omega
  · rw [zs_other (by omega)]; exact hop k hk
end
section
/-! THE STAGE (33): the Show at 1, the layout at 21, the moment now at 34, those at the presses at 45 + 8 p, the presses' order in row 43, the leaves as they stand in row 44 -/
theorem mo_at : ∀ j : Nat, j < 6 → zMo SH (45 + 8 * j) := by
  intro j hj
  rcases (by omega : j = 0 ∨ j = 1 ∨ j = 2 ∨ j = 3 ∨ j = 4 ∨ j = 5) with rfl | rfl | rfl | rfl | rfl | rfl
  · exact mo_45
  · exact mo_53
  · exact mo_61
  · exact mo_69
  · exact mo_77
  · exact mo_85
/-- the numbers of a moment stay within bounds -/
def zMr (σ : zSt) (p : Nat) : Prop := zr (σ p 0) ∧ ∀ k, k < 12 → (0 ≤ σ (p + 1) k ∧ σ (p + 1) k ≤ 4) ∧ (-1 ≤ σ (p + 2) k ∧ σ (p + 2) k ≤ 1000000000) ∧ (-1 ≤ σ (p + 3) k ∧ σ (p + 3) k ≤ 1000000000) ∧ (-1 ≤ σ (p + 4) k ∧ σ (p + 4) k ≤ 2000000000) ∧ (0 ≤ σ (p + 5) k ∧ σ (p + 5) k ≤ 1000000000) ∧ (0 ≤ σ (p + 6) k ∧ σ (p + 6) k ≤ 100) ∧ (0 ≤ σ (p + 7) k ∧ σ (p + 7) k ≤ 100)
/-- whether the passes are the same from x on outwards -/
def zsame (ar pa pb : Nat → Int) : Nat → Int → Bool
  | 0, _ => true
  | f + 1, x => if x = -1 then true else if pa x.toNat = pb x.toNat then zsame ar pa pb f (ar x.toNat) else false
theorem zsame_s (ar pa pb : Nat → Int) (f : Nat) (x : Int) : zsame ar pa pb (f + 1) x = if x = -1 then true else if pa x.toNat = pb x.toNat then zsame ar pa pb f (ar x.toNat) else false := rfl
theorem w_Sg_samePasses {G : zG} {X : zX} {n : Nat} {σ : zSt} {p q : Nat} {x : Int} (hn : 189 ≤ n) (hP : zMo SH p) (hQ : zMo SH q) (hg : zGood σ 1) (rp : zMr σ p) (rq : zMr σ q) : ∀ (m : Nat) (i : Nat) (x4 x5 : Int), x5 = (i : Int) → (-1 ≤ x4 ∧ x4 ≤ 11) → zsame (σ 3) (σ (p + 3)) (σ (q + 3)) 12 x = zsame (σ 3) (σ (p + 3)) (σ (q + 3)) (12 - i) x4 → i ≤ 12 → 12 < i + m → Go G X m_Sg_samePasses (0, 0, 0, 0, 0) n SH σ 6 [(0, vr G 33), (1, vr G p), (2, vr G q), (3, vi x), (4, vi x4), (5, vi x5)] [] (zI n SH (fun a σ' => a = (if zsame (σ 3) (σ (p + 3)) (σ (q + 3)) 12 x = true then 1 else 0) ∧ σ' = σ)) := by
  intro m
  induction m with
  | zero => intro i x4 x5 e5 hx e1 hi hm; exact absurd hm (by omega)
  | succ m ih =>
    intro i x4 x5 e5 hx e1 hi hm
    have hp := hP.1
    have hq := hQ.1
    refine g_iload (i := 5) (by decide +kernel) rfl ?_
    refine g_bipush (a := 12) (by decide +kernel) (by decide) ?_
    refine g_icmp_ge (off := 46) (tgt := 56) (by decide +kernel) (by decide) ⟨by omega, by omega⟩ ⟨by omega, by omega⟩ (fun h10 => ?_) (fun h10 => ?_)
    · refine g_iconst (a := 1) (by decide +kernel) ?_
      refine g_retI (by decide +kernel) rfl (Or.inr ⟨rfl, by omega⟩) ⟨by decide, by decide⟩ ?_
      first
        | (have hz : x4 = -1 := h16
           exact ⟨by rw [e1]; rfl, rfl⟩)
        | exact ⟨by rw [e1, show 12 - i = 0 by omega]; rfl, rfl⟩
    · rw [show 12 - i = (12 - (i + 1)) + 1 by omega, zsame_s _ _ _ (12 - (i + 1))] at e1
      refine g_iload (i := 4) (by decide +kernel) rfl ?_
      refine g_iconst (a := -1) (by decide +kernel) ?_
      refine g_icmp_eq (off := 40) (tgt := 56) (by decide +kernel) (by decide) ⟨by omega, by omega⟩ ⟨by omega, by omega⟩ (fun h16 => ?_) (fun h16 => ?_)
      · rw [if_pos h16] at e1
        refine g_iconst (a := 1) (by decide +kernel) ?_
        refine g_retI (by decide +kernel) rfl (Or.inr ⟨rfl, by omega⟩) ⟨by decide, by decide⟩ ?_
        first
          | (have hz : x4 = -1 := h16
             exact ⟨by rw [e1]; rfl, rfl⟩)
          | exact ⟨by rw [e1, show 12 - i = 0 by omega]; rfl, rfl⟩
      · obtain ⟨j, rfl⟩ := Int.eq_ofNat_of_zero_le (show 0 ≤ x4 by omega)
        have h1 := rp.2 j (by omega)
        have h2 := rq.2 j (by omega)
        have h3 : -1 ≤ σ 3 j ∧ σ 3 j ≤ 11 := (hg.2.1 j (by omega)).2.1
        rw [if_neg (by omega), Int.toNat_natCast] at e1
        refine g_aload_n (i := 1) (by decide +kernel) rfl ?_
        refine g_getr f_Sg_154 (by decide +kernel) (by omega) hP.a0 rfl ?_
        refine g_iload (i := 4) (by decide +kernel) rfl ?_
        refine g_iald (j := j) (by decide +kernel) (by omega) hP.a3 rfl (by omega) (by decide) ?_
        refine g_aload_n (i := 2) (by decide +kernel) rfl ?_
        refine g_getr f_Sg_154 (by decide +kernel) (by omega) hQ.a0 rfl ?_
        refine g_iload (i := 4) (by decide +kernel) rfl ?_
        refine g_iald (j := j) (by decide +kernel) (by omega) hQ.a3 rfl (by omega) (by decide) ?_
        refine g_icmp_eq (off := 5) (tgt := 38) (by decide +kernel) (by decide) ⟨by omega, by omega⟩ ⟨by omega, by omega⟩ (fun h33 => ?_) (fun h33 => ?_)
        · rw [if_pos h33] at e1
          refine g_aload_n (i := 0) (by decide +kernel) rfl ?_
          refine g_getr f_Sg_29 (by decide +kernel) (by omega) rfl rfl ?_
          refine g_getr f_Sg_124 (by decide +kernel) (by omega) rfl rfl ?_
          refine g_iload (i := 4) (by decide +kernel) rfl ?_
          refine g_iald (j := j) (by decide +kernel) (by omega) rfl rfl (by omega) (by decide) ?_
          refine g_istore (i := 4) (L' := [(0, _), (1, _), (2, _), (3, _), (4, _), (5, _)]) (by decide +kernel) rfl rfl ?_
          refine g_iinc (i := 5) (b := 1) (L' := [(0, _), (1, _), (2, _), (3, _), (4, _), (5, _)]) (by decide +kernel) rfl rfl rfl ?_
          refine g_goto (off := -47) (tgt := 6) (by decide +kernel) (by decide) ?_
          exact ih (i + 1) _ _ (by omega) h3 e1 (by omega) (by omega)
        · rw [if_neg h33] at e1
          refine g_iconst (a := 0) (by decide +kernel) ?_
          refine g_retI (by decide +kernel) rfl (Or.inr ⟨rfl, by omega⟩) ⟨by decide, by decide⟩ ?_
          exact ⟨by rw [e1]; rfl, rfl⟩
theorem c_Sg_samePasses {G : zG} {n : Nat} {σ : zSt} {p q : Nat} {x : Int} (hn : 189 ≤ n) (hP : zMo SH p) (hQ : zMo SH q) (hg : zGood σ 1) (rp : zMr σ p) (rq : zMr σ q) (hx : -1 ≤ x ∧ x ≤ 11) : Gm G y_Sg_samePasses m_Sg_samePasses 0 0 0 [vr G 33, vr G p, vr G q, vi x] n SH σ (zI n SH (fun a σ' => a = (if zsame (σ 3) (σ (p + 3)) (σ (q + 3)) 12 x = true then 1 else 0) ∧ σ' = σ)) := by
  refine g_enter (L := [(0, _), (1, _), (2, _), (3, _)]) (by decide) rfl rfl rfl (Nat.le_of_ble_eq_true rfl) (fun X => ?_)
  refine g_iload_n (i := 3) (by decide +kernel) rfl ?_
  refine g_istore (i := 4) (L' := [(0, _), (1, _), (2, _), (3, _), (4, _)]) (by decide +kernel) rfl rfl ?_
  refine g_iconst (a := 0) (by decide +kernel) ?_
  refine g_istore (i := 5) (L' := [(0, _), (1, _), (2, _), (3, _), (4, _), (5, _)]) (by decide +kernel) rfl rfl ?_
  exact w_Sg_samePasses hn hP hQ hg rp rq 13 0 _ _ rfl hx rfl (by omega) (by omega)
/-- a clip runs: s since its begin -/
def zFR (σ : zSt) (p k : Nat) (s : Int) : zSt := zs (zs (zs σ (p + 3) k (s * σ 8 (9 * k + 1) / σ 22 k)) (p + 2) k (if σ 8 (9 * k + 4) = 1 then σ 22 k - 1 - s * σ 8 (9 * k + 1) % σ 22 k else s * σ 8 (9 * k + 1) % σ 22 k)) (p + 5) k s
theorem c_Sg_fillRunning {G : zG} {n : Nat} {σ : zSt} {p k : Nat} {s : Int} (hn : 189 ≤ n) (hP : zMo SH p) (hp2 : 27 ≤ p) (hk : k < 12) (hs : 0 ≤ s ∧ s ≤ 1000000000) (h1 : 1 ≤ σ 22 k ∧ σ 22 k ≤ 100000000) (h2 : 1 ≤ σ 8 (9 * k + 1) ∧ σ 8 (9 * k + 1) ≤ 4) (h4 : 0 ≤ σ 8 (9 * k + 4) ∧ σ 8 (9 * k + 4) ≤ 999) : Gm G y_Sg_fillRunning m_Sg_fillRunning 1 0 0 [vr G 33, vr G p, vi k, vi s] n SH σ (zV n SH (fun σ' => σ' = zFR σ p k s)) := by
  refine g_enter (L := [(0, _), (1, _), (2, _), (3, _)]) (by decide) rfl rfl rfl (Nat.le_of_ble_eq_true rfl) (fun X => ?_)
  have hp := hP.1
  have b1 : 0 ≤ s * σ 8 (9 * k + 1) := Int.mul_nonneg hs.1 (by omega)
  have b2 : s * σ 8 (9 * k + 1) ≤ 1000000000 * 4 := Int.mul_le_mul hs.2 h2.2 (by omega) (by omega)
  refine g_aload_n (i := 0) (by decide +kernel) rfl ?_
  refine g_getr f_Sg_33 (by decide +kernel) (by omega) rfl rfl ?_
  refine g_getr f_Sg_151 (by decide +kernel) (by omega) rfl rfl ?_
  refine g_iload_n (i := 2) (by decide +kernel) rfl ?_
  refine g_iald (j := k) (by decide +kernel) (by omega) rfl rfl (by omega) (by decide) ?_
  refine g_istore (i := 4) (L' := [(0, _), (1, _), (2, _), (3, _), (4, _)]) (by decide +kernel) rfl rfl ?_
  refine g_iload (i := 4) (by decide +kernel) rfl ?_
  refine g_if_gt (off := 4) (tgt := 17) (by decide +kernel) (by decide) ⟨by omega, by omega⟩ (fun h13 => ?_) (fun h13 => ?_)
  · refine g_iload_n (i := 3) (by decide +kernel) rfl ?_
    refine g_i2l (by decide +kernel) ⟨by omega, by omega⟩ ?_
    refine g_aload_n (i := 0) (by decide +kernel) rfl ?_
    refine g_getr f_Sg_29 (by decide +kernel) (by omega) rfl rfl ?_
    refine g_iload_n (i := 2) (by decide +kernel) rfl ?_
    refine g_iconst (a := 1) (by decide +kernel) ?_
    refine g_cVI (st := [vl s]) (c_Sh_markOf (b := 1) (k := k) (w := 1) hn sh_1 hk (by decide)) k_Sh_markOf l_Sg_99 (by decide +kernel) (by omega) rfl rfl rfl rfl (Nat.le_of_ble_eq_true rfl) (by decide) ⟨by decide, by decide⟩ ?_
    rintro a σ1 ⟨ea, hσ⟩
    obtain rfl := hσ.symm
    have ea : a = σ 8 (9 * k + 1) := ea
    subst ea
    refine g_i2l (by decide +kernel) ⟨by omega, by omega⟩ ?_
    refine g_lmul (by decide +kernel) ?_
    refine g_lstore (i := 5) (L' := [(0, _), (1, _), (2, _), (3, _), (4, _), (5, _)]) (by decide +kernel) rfl rfl ?_
    refine g_lload (i := 5) (by decide +kernel) rfl ?_
    refine g_iload (i := 4) (by decide +kernel) rfl ?_
    refine g_i2l (by decide +kernel) ⟨by omega, by omega⟩ ?_
    refine g_lrem (by decide +kernel) ⟨by omega, by omega, by omega, by omega⟩ ?_
    refine g_l2i (by decide +kernel) ?_
    refine g_istore (i := 7) (L' := [(0, _), (1, _), (2, _), (3, _), (4, _), (5, _), (7, _)]) (by decide +kernel) rfl rfl ?_
    refine g_aload_n (i := 1) (by decide +kernel) rfl ?_
    refine g_getr f_Sg_154 (by decide +kernel) (by omega) hP.a0 rfl ?_
    refine g_iload_n (i := 2) (by decide +kernel) rfl ?_
    refine g_lload (i := 5) (by decide +kernel) rfl ?_
    refine g_iload (i := 4) (by decide +kernel) rfl ?_
    refine g_i2l (by decide +kernel) ⟨by omega, by omega⟩ ?_
    refine g_ldiv (by decide +kernel) ⟨by omega, by omega, by omega, by omega⟩ ?_
    refine g_l2i (by decide +kernel) ?_
    refine g_iast (j := k) (by decide +kernel) (by omega) hP.a3 rfl (by omega) (by decide) ?_
    refine g_aload_n (i := 1) (by decide +kernel) rfl ?_
    refine g_getr f_Sg_127 (by decide +kernel) (by omega) hP.a0 rfl ?_
    refine g_iload_n (i := 2) (by decide +kernel) rfl ?_
    refine g_aload_n (i := 0) (by decide +kernel) rfl ?_
    refine g_getr f_Sg_29 (by decide +kernel) (by omega) rfl rfl ?_
    refine g_iload_n (i := 2) (by decide +kernel) rfl ?_
    refine g_iconst (a := 4) (by decide +kernel) ?_
    refine g_cVI (st := [vi (k : Int), vr G (p + 2)]) (c_Sh_markOf (b := 1) (k := k) (w := 4) hn sh_1 hk (by decide)) k_Sh_markOf l_Sg_99 (by decide +kernel) (by omega) rfl rfl rfl rfl (Nat.le_of_ble_eq_true rfl) (by decide) ⟨by decide, by decide⟩ ?_
    rintro a σ1 ⟨ea, hσ⟩
    obtain rfl := hσ.symm
    have ea : a = zs σ (p + 3) k (s * σ 8 (9 * k + 1) / σ 22 k) 8 (9 * k + 4) := ea
    subst ea
    refine g_iconst (a := 1) (by decide +kernel) ?_
    refine g_icmp_ne (off := 13) (tgt := 82) (by decide +kernel) (by decide) ⟨by rw [zs_other (show 8 ≠ p + 3 by omega)]; omega, by rw [zs_other (show 8 ≠ p + 3 by omega)]; omega⟩ ⟨by omega, by omega⟩ (fun h69 => ?_) (fun h69 => ?_)
    · refine g_iload (i := 7) (by decide +kernel) rfl ?_
      refine g_iast (j := k) (by decide +kernel) (by omega) hP.a2 rfl (by omega) (by decide) ?_
      refine g_aload_n (i := 1) (by decide +kernel) rfl ?_
      refine g_getr f_Sg_157 (by decide +kernel) (by omega) hP.a0 rfl ?_
      refine g_iload_n (i := 2) (by decide +kernel) rfl ?_
      refine g_iload_n (i := 3) (by decide +kernel) rfl ?_
      refine g_iast (j := k) (by decide +kernel) (by omega) hP.a5 rfl (by omega) (by decide) ?_
      refine g_retV (by decide +kernel) rfl ⟨by decide, by decide⟩ ?_
      show _ = zFR σ p k s
      unfold zFR
      rw [zs_other (show 8 ≠ p + 3 by omega)] at h69
      first
        | rw [if_pos h69]
        | rw [if_neg h69]
    · refine g_iload (i := 4) (by decide +kernel) rfl ?_
      refine g_iconst (a := 1) (by decide +kernel) ?_
      refine g_isub (by decide +kernel) ?_
      refine g_iload (i := 7) (by decide +kernel) rfl ?_
      refine g_isub (by decide +kernel) ?_
      refine g_goto (off := 5) (tgt := 84) (by decide +kernel) (by decide) ?_
      refine g_iast (j := k) (by decide +kernel) (by omega) hP.a2 rfl (by omega) (by decide) ?_
      refine g_aload_n (i := 1) (by decide +kernel) rfl ?_
      refine g_getr f_Sg_157 (by decide +kernel) (by omega) hP.a0 rfl ?_
      refine g_iload_n (i := 2) (by decide +kernel) rfl ?_
      refine g_iload_n (i := 3) (by decide +kernel) rfl ?_
      refine g_iast (j := k) (by decide +kernel) (by omega) hP.a5 rfl (by omega) (by decide) ?_
      refine g_retV (by decide +kernel) rfl ⟨by decide, by decide⟩ ?_
      show _ = zFR σ p k s
      unfold zFR
      rw [zs_other (show 8 ≠ p + 3 by omega)] at h69
      first
        | rw [if_pos h69]
        | rw [if_neg h69]
  · exact absurd h13 (by omega)
def zOwn (σ : zSt) (p k : Nat) : Int := min 100 (min ((σ (p + 5) k + 1) * 100 / (σ 8 (9 * k + 7) + 1)) ((σ 23 k - σ (p + 5) k) * 100 / (σ 8 (9 * k + 8) + 1)))
def zStr (σ : zSt) (p k : Nat) : Int := zOwn σ p k * (if σ 3 k = -1 then 100 else σ (p + 6) (σ 3 k).toNat) / 100
theorem zOwn_in {σ : zSt} {p k : Nat} (h5 : 0 ≤ σ (p + 5) k) (ha : σ (p + 5) k ≤ σ 23 k) (h7 : 0 ≤ σ 8 (9 * k + 7)) (h8 : 0 ≤ σ 8 (9 * k + 8)) : 0 ≤ zOwn σ p k ∧ zOwn σ p k ≤ 100 := by
  have a : 0 ≤ (σ (p + 5) k + 1) * 100 / (σ 8 (9 * k + 7) + 1) := Int.ediv_nonneg (by omega) (by omega)
  have b : 0 ≤ (σ 23 k - σ (p + 5) k) * 100 / (σ 8 (9 * k + 8) + 1) := Int.ediv_nonneg (by omega) (by omega)
  unfold zOwn
  omega
theorem c_Sg_strengthOf {G : zG} {n : Nat} {σ : zSt} {p k : Nat} (hn : 189 ≤ n) (hP : zMo SH p) (hp2 : 27 ≤ p) (hk : k < 12) (hg : zGood σ 1) (h5 : 0 ≤ σ (p + 5) k ∧ σ (p + 5) k ≤ σ 23 k) (ha : σ 23 k ≤ 1000000000) (h6 : ∀ j, j < 12 → 0 ≤ σ (p + 6) j ∧ σ (p + 6) j ≤ 100) : Gm G y_Sg_strengthOf m_Sg_strengthOf 1 0 0 [vr G 33, vr G p, vi k] n SH σ (zI n SH (fun a σ' => a = zStr σ p k ∧ σ' = σ)) := by
  refine g_enter (L := [(0, _), (1, _), (2, _)]) (by decide) rfl rfl rfl (Nat.le_of_ble_eq_true rfl) (fun X => ?_)
  have hp := hP.1
  have m7 : 0 ≤ σ 8 (9 * k + 7) ∧ σ 8 (9 * k + 7) ≤ 999 := hg.2.2.1 (9 * k + 7) (by omega)
  have m8 : 0 ≤ σ 8 (9 * k + 8) ∧ σ 8 (9 * k + 8) ≤ 999 := hg.2.2.1 (9 * k + 8) (by omega)
  have ar : -1 ≤ σ 3 k ∧ σ 3 k ≤ 11 := (hg.2.1 k hk).2.1
  have ow := zOwn_in h5.1 h5.2 m7.1 m8.1
  have v1 : 0 ≤ (σ (p + 5) k + 1) * 100 / (σ 8 (9 * k + 7) + 1) := Int.ediv_nonneg (by omega) (by omega)
  have v2 : 0 ≤ (σ 23 k - σ (p + 5) k) * 100 / (σ 8 (9 * k + 8) + 1) := Int.ediv_nonneg (by omega) (by omega)
  have v3 := Int.ediv_le_self (b := σ 8 (9 * k + 7) + 1) (show 0 ≤ (σ (p + 5) k + 1) * 100 by omega)
  have v4 := Int.ediv_le_self (b := σ 8 (9 * k + 8) + 1) (show 0 ≤ (σ 23 k - σ (p + 5) k) * 100 by omega)
  have st : 0 ≤ (if σ 3 k = -1 then 100 else σ (p + 6) (σ 3 k).toNat) ∧ (if σ 3 k = -1 then 100 else σ (p + 6) (σ 3 k).toNat) ≤ 100 := by
    split
    · omega
    · exact h6 _ (by omega)
  have pr0 : 0 ≤ zOwn σ p k * (if σ 3 k = -1 then 100 else σ (p + 6) (σ 3 k).toNat) := Int.mul_nonneg ow.1 st.1
  have pr1 : zOwn σ p k * (if σ 3 k = -1 then 100 else σ (p + 6) (σ 3 k).toNat) ≤ 100 * 100 := Int.mul_le_mul ow.2 st.2 st.1 (by omega)
  have J111 : Go G X m_Sg_strengthOf (1, 0, 0, 0, 0) n SH σ 111 [(0, vr G 33), (1, vr G p), (2, vi k), (3, vi (σ 3 k)), (4, vi (σ (p + 5) k)), (5, vl ((σ (p + 5) k + 1) * 100 / (σ 8 (9 * k + 7) + 1))), (7, vl ((σ 23 k - σ (p + 5) k) * 100 / (σ 8 (9 * k + 8) + 1))), (9, vi (zOwn σ p k))] [vi (if σ 3 k = -1 then 100 else σ (p + 6) (σ 3 k).toNat), vi (zOwn σ p k)] (zI n SH (fun a σ' => a = zStr σ p k ∧ σ' = σ)) := by
    refine g_imul (by decide +kernel) ?_
    refine g_bipush (a := 100) (by decide +kernel) (by decide) ?_
    refine g_idiv (by decide +kernel) ⟨by omega, by omega, by omega, by omega⟩ ?_
    refine g_retI (by decide +kernel) rfl (Or.inl rfl) ⟨by decide, by decide⟩ ?_
    exact ⟨rfl, rfl⟩
  refine g_aload_n (i := 0) (by decide +kernel) rfl ?_
  refine g_getr f_Sg_29 (by decide +kernel) (by omega) rfl rfl ?_
  refine g_getr f_Sg_124 (by decide +kernel) (by omega) rfl rfl ?_
  refine g_iload_n (i := 2) (by decide +kernel) rfl ?_
  refine g_iald (j := k) (by decide +kernel) (by omega) rfl rfl (by omega) (by decide) ?_
  refine g_istore_n (i := 3) (L' := [(0, _), (1, _), (2, _), (3, _)]) (by decide +kernel) rfl rfl ?_
  refine g_aload_n (i := 1) (by decide +kernel) rfl ?_
  refine g_getr f_Sg_157 (by decide +kernel) (by omega) hP.a0 rfl ?_
  refine g_iload_n (i := 2) (by decide +kernel) rfl ?_
  refine g_iald (j := k) (by decide +kernel) (by omega) hP.a5 rfl (by omega) (by decide) ?_
  refine g_istore (i := 4) (L' := [(0, _), (1, _), (2, _), (3, _), (4, _)]) (by decide +kernel) rfl rfl ?_
  refine g_iload (i := 4) (by decide +kernel) rfl ?_
  refine g_i2l (by decide +kernel) ⟨by omega, by omega⟩ ?_
  refine g_lconst (c := 1) (a := 1) (by decide +kernel) (by decide) ?_
  refine g_ladd (by decide +kernel) ?_
  refine g_ldc2 (x := 160) (a := 100) (by decide +kernel) c_Sg_160 (by decide) ?_
  refine g_lmul (by decide +kernel) ?_
  refine g_aload_n (i := 0) (by decide +kernel) rfl ?_
  refine g_getr f_Sg_29 (by decide +kernel) (by omega) rfl rfl ?_
  refine g_iload_n (i := 2) (by decide +kernel) rfl ?_
  refine g_bipush (a := 7) (by decide +kernel) (by decide) ?_
  refine g_cVI (st := [vl ((σ (p + 5) k + 1) * 100)]) (c_Sh_markOf (b := 1) (k := k) (w := 7) hn sh_1 hk (by decide)) k_Sh_markOf l_Sg_99 (by decide +kernel) (by omega) rfl rfl rfl rfl (Nat.le_of_ble_eq_true rfl) (by decide) ⟨by decide, by decide⟩ ?_
  rintro a σ1 ⟨ea, hσ⟩
  obtain rfl := hσ.symm
  have ea : a = σ 8 (9 * k + 7) := ea
  subst ea
  refine g_iconst (a := 1) (by decide +kernel) ?_
  refine g_iadd (by decide +kernel) ?_
  refine g_i2l (by decide +kernel) ⟨by omega, by omega⟩ ?_
  refine g_ldiv (by decide +kernel) ⟨by omega, by omega, by omega, by omega⟩ ?_
  refine g_lstore (i := 5) (L' := [(0, _), (1, _), (2, _), (3, _), (4, _), (5, _)]) (by decide +kernel) rfl rfl ?_
  refine g_aload_n (i := 0) (by decide +kernel) rfl ?_
  refine g_getr f_Sg_33 (by decide +kernel) (by omega) rfl rfl ?_
  refine g_getr f_Sg_144 (by decide +kernel) (by omega) rfl rfl ?_
  refine g_iload_n (i := 2) (by decide +kernel) rfl ?_
  refine g_iald (j := k) (by decide +kernel) (by omega) rfl rfl (by omega) (by decide) ?_
  refine g_i2l (by decide +kernel) ⟨by omega, by omega⟩ ?_
  refine g_iload (i := 4) (by decide +kernel) rfl ?_
  refine g_i2l (by decide +kernel) ⟨by omega, by omega⟩ ?_
  refine g_lsub (by decide +kernel) ?_
  refine g_ldc2 (x := 160) (a := 100) (by decide +kernel) c_Sg_160 (by decide) ?_
  refine g_lmul (by decide +kernel) ?_
  refine g_aload_n (i := 0) (by decide +kernel) rfl ?_
  refine g_getr f_Sg_29 (by decide +kernel) (by omega) rfl rfl ?_
  refine g_iload_n (i := 2) (by decide +kernel) rfl ?_
  refine g_bipush (a := 8) (by decide +kernel) (by decide) ?_
  refine g_cVI (st := [vl ((σ 23 k - σ (p + 5) k) * 100)]) (c_Sh_markOf (b := 1) (k := k) (w := 8) hn sh_1 hk (by decide)) k_Sh_markOf l_Sg_99 (by decide +kernel) (by omega) rfl rfl rfl rfl (Nat.le_of_ble_eq_true rfl) (by decide) ⟨by decide, by decide⟩ ?_
  rintro a σ1 ⟨ea, hσ⟩
  obtain rfl := hσ.symm
  have ea : a = σ 8 (9 * k + 8) := ea
  subst ea
  refine g_iconst (a := 1) (by decide +kernel) ?_
  refine g_iadd (by decide +kernel) ?_
  refine g_i2l (by decide +kernel) ⟨by omega, by omega⟩ ?_
  refine g_ldiv (by decide +kernel) ⟨by omega, by omega, by omega, by omega⟩ ?_
  refine g_lstore (i := 7) (L' := [(0, _), (1, _), (2, _), (3, _), (4, _), (5, _), (7, _)]) (by decide +kernel) rfl rfl ?_
  refine g_ldc2 (x := 160) (a := 100) (by decide +kernel) c_Sg_160 (by decide) ?_
  refine g_lload (i := 5) (by decide +kernel) rfl ?_
  refine g_lload (i := 7) (by decide +kernel) rfl ?_
  refine g_minL ma_minL_Sg_162 (by decide +kernel) ⟨by omega, by omega⟩ ⟨by omega, by omega⟩ (Nat.le_of_ble_eq_true rfl) (by decide) ⟨by decide, by decide⟩ ?_
  refine g_minL ma_minL_Sg_162 (by decide +kernel) ⟨by omega, by omega⟩ ⟨by omega, by omega⟩ (Nat.le_of_ble_eq_true rfl) (by decide) ⟨by decide, by decide⟩ ?_
  refine g_l2i (by decide +kernel) ?_
  refine g_istore (i := 9) (L' := [(0, _), (1, _), (2, _), (3, _), (4, _), (5, _), (7, _), (9, _)]) (by decide +kernel) rfl rfl ?_
  refine g_iload (i := 9) (by decide +kernel) rfl ?_
  refine g_iload_n (i := 3) (by decide +kernel) rfl ?_
  refine g_iconst (a := -1) (by decide +kernel) ?_
  refine g_icmp_ne (off := 8) (tgt := 105) (by decide +kernel) (by decide) ⟨by omega, by omega⟩ ⟨by omega, by omega⟩ (fun h97 => ?_) (fun h97 => ?_)
  · refine g_aload_n (i := 1) (by decide +kernel) rfl ?_
    refine g_getr f_Sg_109 (by decide +kernel) (by omega) hP.a0 rfl ?_
    refine g_iload_n (i := 3) (by decide +kernel) rfl ?_
    refine g_iald (j := (σ 3 k).toNat) (by decide +kernel) (by omega) hP.a6 (by omega) (by omega) (by decide) ?_
    exact g_eq J111 rfl rfl (by first | (rw [if_pos h97]; rfl) | (rw [if_neg h97]; rfl))
  · refine g_bipush (a := 100) (by decide +kernel) (by decide) ?_
    refine g_goto (off := 9) (tgt := 111) (by decide +kernel) (by decide) ?_
    exact g_eq J111 rfl rfl (by first | (rw [if_pos h97]; rfl) | (rw [if_neg h97]; rfl))
end
section
theorem c_Sg_clips {G : zG} {n : Nat} {σ : zSt} (hn : 189 ≤ n) : Gm G y_Sg_clips m_Sg_clips 0 0 0 [vr G 33] n SH σ (zI n SH (fun a σ' => a = σ 1 0 ∧ σ' = σ)) := by
  refine g_enter (L := [(0, _)]) (by decide) rfl rfl rfl (Nat.le_of_ble_eq_true rfl) (fun X => ?_)
  refine g_aload_n (i := 0) (by decide +kernel) rfl ?_
  refine g_getr f_Sg_29 (by decide +kernel) (by omega) rfl rfl ?_
  refine g_geti f_Sg_80 (by decide +kernel) (by omega) rfl rfl ?_
  refine g_retI (by decide +kernel) rfl (Or.inl rfl) ⟨by decide, by decide⟩ ?_
  exact ⟨rfl, rfl⟩
/-- the light that is left behind the first i that stand -/
def zlt (sg sd : Nat → Int) : Nat → Int
  | 0 => 100
  | i + 1 => zlt sg sd i - zlt sg sd i * sg (sd i).toNat / 100
theorem zlt_s (sg sd : Nat → Int) (i : Nat) : zlt sg sd (i + 1) = zlt sg sd i - zlt sg sd i * sg (sd i).toNat / 100 := rfl
theorem zlt_in {sg sd : Nat → Int} (h : ∀ k, k < 12 → 0 ≤ sg k ∧ sg k ≤ 100) : ∀ i, (∀ j, j < i → 0 ≤ sd j ∧ sd j < 12) → 0 ≤ zlt sg sd i ∧ zlt sg sd i ≤ 100
  | 0, _ => ⟨show (0 : Int) ≤ 100 by decide, show (100 : Int) ≤ 100 by decide⟩
  | i + 1, hs => by
    have a := zlt_in h i (fun j hj => hs j (by omega))
    have b := h (sd i).toNat (by have := hs i (by omega); omega)
    have c0 : 0 ≤ zlt sg sd i * sg (sd i).toNat := Int.mul_nonneg a.1 b.1
    have c1 : zlt sg sd i * sg (sd i).toNat ≤ zlt sg sd i * 100 := Int.mul_le_mul_of_nonneg_left b.2 a.1
    rw [zlt_s]
    have d0 : 0 ≤ zlt sg sd i * sg (sd i).toNat / 100 := Int.ediv_nonneg c0 (by decide)
    have d1 : zlt sg sd i * sg (sd i).toNat / 100 ≤ zlt sg sd i := by omega
    omega
/-- the shares of those that stand, up to i -/
def zShr (σ τ : zSt) (p i : Nat) : Prop := (∀ a, a ≠ p + 7 → τ a = σ a) ∧ (∀ j, j < i → τ (p + 7) (σ 44 j).toNat = zlt (σ (p + 6)) (σ 44) j * σ (p + 6) (σ 44 j).toNat / 100) ∧ ∀ k, (∀ j, j < i → (σ 44 j).toNat ≠ k) → τ (p + 7) k = σ (p + 7) k
def zShare (σ σ' : zSt) (p : Nat) : Prop := ∃ τ, zShr σ τ p (σ 33 6).toNat ∧ σ' = zs τ p 1 (zlt (σ (p + 6)) (σ 44) (σ 33 6).toNat)
theorem w_Sg_shareLight {G : zG} {X : zX} {n : Nat} {σ : zSt} {p : Nat} (hn : 189 ≤ n) (hP : zMo SH p) (hp2 : 34 ≤ p) (hp3 : p ≠ 44 ∧ p + 7 ≠ 44) (h6 : ∀ k, k < 12 → 0 ≤ σ (p + 6) k ∧ σ (p + 6) k ≤ 100) (hst : 0 ≤ σ 33 6 ∧ σ 33 6 ≤ 12) (hsd : ∀ j, j < (σ 33 6).toNat → 0 ≤ σ 44 j ∧ σ 44 j < 12) (hin : ∀ i j, i < (σ 33 6).toNat → j < (σ 33 6).toNat → σ 44 i = σ 44 j → i = j) : ∀ (m : Nat) (i : Nat) (x2 x3 : Int) (τ : zSt) (L4 : List (Nat × Value)), x3 = (i : Int) → x2 = zlt (σ (p + 6)) (σ 44) i → zShr σ τ p i → (L4 = [] ∨ ∃ v, L4 = [(4, vi v)]) → i ≤ (σ 33 6).toNat → (σ 33 6).toNat < i + m → Go G X m_Sg_shareLight (0, 0, 0, 0, 0) n SH τ 5 ([(0, vr G 33), (1, vr G p), (2, vi x2), (3, vi x3)] ++ L4) [] (zV n SH (fun σ' => zShare σ σ' p)) := by
  intro m
  induction m with
  | zero => intro i x2 x3 τ L4 e3 e2 ht h4 hi hm; exact absurd hm (by omega)
  | succ m ih =>
    intro i x2 x3 τ L4 e3 e2 ht h4 hi hm
    have hp := hP.1
    obtain ⟨t1, t2, t3⟩ := id ht
    have q1 : τ 33 = σ 33 := t1 _ (by omega)
    have q2 : τ 44 = σ 44 := t1 _ (by omega)
    have q3 : τ (p + 6) = σ (p + 6) := t1 _ (by omega)
    have s1 : τ 33 6 = σ 33 6 := by rw [q1]
    have lz := zlt_in h6 i (fun j hj => hsd j (by omega))
    subst e3 e2
    refine g_less [0, 1, 2, 3] (L' := [(0, vr G 33), (1, vr G p), (2, vi (zlt (σ (p + 6)) (σ 44) i)), (3, vi (i : Int))]) (by rcases h4 with rfl | ⟨v, rfl⟩ <;> rfl) ?_
    refine g_iload_n (i := 3) (by decide +kernel) rfl ?_
    refine g_aload_n (i := 0) (by decide +kernel) rfl ?_
    refine g_geti f_Sg_87 (by decide +kernel) (by omega) rfl rfl ?_
    refine g_icmp_ge (off := 45) (tgt := 55) (by decide +kernel) (by decide) ⟨by omega, by omega⟩ ⟨by omega, by omega⟩ (fun h10 => ?_) (fun h10 => ?_)
    · refine g_aload_n (i := 1) (by decide +kernel) rfl ?_
      refine g_iload_n (i := 2) (by decide +kernel) rfl ?_
      refine g_puti f_Sg_165 (by decide +kernel) (by omega) hP.a0 rfl ?_
      refine g_retV (by decide +kernel) rfl ⟨by decide, by decide⟩ ?_
      have e : i = (σ 33 6).toNat := by omega
      subst e
      exact ⟨τ, ht, rfl⟩
    · have sd := hsd i (by omega)
      have sg := h6 (σ 44 i).toNat (by omega)
      have s2 : τ 44 i = σ 44 i := by rw [q2]
      have s3 : τ (p + 6) (σ 44 i).toNat = σ (p + 6) (σ 44 i).toNat := by rw [q3]
      have c0 : 0 ≤ zlt (σ (p + 6)) (σ 44) i * σ (p + 6) (σ 44 i).toNat := Int.mul_nonneg lz.1 sg.1
      have c1 : zlt (σ (p + 6)) (σ 44) i * σ (p + 6) (σ 44 i).toNat ≤ 100 * 100 := Int.mul_le_mul lz.2 sg.2 sg.1 (by omega)
      refine g_iload_n (i := 2) (by decide +kernel) rfl ?_
      refine g_aload_n (i := 1) (by decide +kernel) rfl ?_
      refine g_getr f_Sg_109 (by decide +kernel) (by omega) hP.a0 rfl ?_
      refine g_aload_n (i := 0) (by decide +kernel) rfl ?_
      refine g_getr f_Sg_26 (by decide +kernel) (by omega) rfl rfl ?_
      refine g_iload_n (i := 3) (by decide +kernel) rfl ?_
      refine g_iald (j := i) (by decide +kernel) (by omega) rfl rfl (by omega) (by decide) ?_
      refine g_iald (j := (σ 44 i).toNat) (by decide +kernel) (by omega) hP.a6 (by omega) (by omega) (by decide) ?_
      refine g_imul (by decide +kernel) ?_
      refine g_bipush (a := 100) (by decide +kernel) (by decide) ?_
      refine g_idiv (by decide +kernel) ⟨by rw [s3]; exact c0, by rw [s3]; omega, by omega, by omega⟩ ?_
      refine g_istore (i := 4) (L' := [(0, _), (1, _), (2, _), (3, _), (4, _)]) (by decide +kernel) rfl rfl ?_
      refine g_aload_n (i := 1) (by decide +kernel) rfl ?_
      refine g_getr f_Sg_90 (by decide +kernel) (by omega) hP.a0 rfl ?_
      refine g_aload_n (i := 0) (by decide +kernel) rfl ?_
      refine g_getr f_Sg_26 (by decide +kernel) (by omega) rfl rfl ?_
      refine g_iload_n (i := 3) (by decide +kernel) rfl ?_
      refine g_iald (j := i) (by decide +kernel) (by omega) rfl rfl (by omega) (by decide) ?_
      refine g_iload (i := 4) (by decide +kernel) rfl ?_
      refine g_iast (j := (σ 44 i).toNat) (by decide +kernel) (by omega) hP.a7 (by omega) (by omega) (by decide) ?_
      refine g_iload_n (i := 2) (by decide +kernel) rfl ?_
      refine g_iload (i := 4) (by decide +kernel) rfl ?_
      refine g_isub (by decide +kernel) ?_
      refine g_istore_n (i := 2) (L' := [(0, _), (1, _), (2, _), (3, _), (4, _)]) (by decide +kernel) rfl rfl ?_
      refine g_iinc (i := 3) (b := 1) (L' := [(0, _), (1, _), (2, _), (3, _), (4, _)]) (by decide +kernel) rfl rfl rfl ?_
      refine g_goto (off := -47) (tgt := 5) (by decide +kernel) (by decide) ?_
      rw [s3]
      refine ih (i + 1) _ _ _ [(4, vi (zlt (σ (p + 6)) (σ 44) i * σ (p + 6) (σ 44 i).toNat / 100))] (by omega) rfl ⟨fun a ha => by rw [zs_other ha]; exact t1 a ha, fun j hj => ?_, fun k hk => ?_⟩ (Or.inr ⟨_, rfl⟩) (by omega) (by omega)
      · rcases Nat.lt_or_ge j i with z | z
        · have hne : (σ 44 j).toNat ≠ (σ 44 i).toNat := fun e => by
            have a := hsd j (by omega)
            have := hin j i (by omega) (by omega) (by omega)
            omega
          rw [zs_row, zu_ne hne]
          exact t2 j z
        · have e : j = i := by omega
          subst e
          rw [zs_row, zu_eq]
      · rw [zs_row, zu_ne (fun e => hk i (by omega) e.symm)]
        exact t3 k (fun j hj => hk j (by omega))
theorem c_Sg_shareLight {G : zG} {n : Nat} {σ : zSt} {p : Nat} (hn : 189 ≤ n) (hP : zMo SH p) (hp2 : 34 ≤ p) (hp3 : p ≠ 44 ∧ p + 7 ≠ 44) (h6 : ∀ k, k < 12 → 0 ≤ σ (p + 6) k ∧ σ (p + 6) k ≤ 100) (hst : 0 ≤ σ 33 6 ∧ σ 33 6 ≤ 12) (hsd : ∀ j, j < (σ 33 6).toNat → 0 ≤ σ 44 j ∧ σ 44 j < 12) (hin : ∀ i j, i < (σ 33 6).toNat → j < (σ 33 6).toNat → σ 44 i = σ 44 j → i = j) : Gm G y_Sg_shareLight m_Sg_shareLight 0 0 0 [vr G 33, vr G p] n SH σ (zV n SH (fun σ' => zShare σ σ' p)) := by
  refine g_enter (L := [(0, _), (1, _)]) (by decide) rfl rfl rfl (Nat.le_of_ble_eq_true rfl) (fun X => ?_)
  have hp := hP.1
  refine g_bipush (a := 100) (by decide +kernel) (by decide) ?_
  refine g_istore_n (i := 2) (L' := [(0, _), (1, _), (2, _)]) (by decide +kernel) rfl rfl ?_
  refine g_iconst (a := 0) (by decide +kernel) ?_
  refine g_istore_n (i := 3) (L' := [(0, _), (1, _), (2, _), (3, _)]) (by decide +kernel) rfl rfl ?_
  exact w_Sg_shareLight hn hP hp2 hp3 h6 hst hsd hin 13 0 _ _ σ [] rfl rfl ⟨fun _ _ => rfl, fun j hj => by omega, fun _ _ => rfl⟩ (Or.inl rfl) (by omega) (by omega)
/-- where the next one comes in, from place p downwards -/
def zpos (tm a : Nat → Int) (t : Int) : Nat → Nat
  | 0 => 0
  | p + 1 => if t < tm (a p).toNat then zpos tm a t p else p + 1
theorem zpos_s (tm a : Nat → Int) (t : Int) (p : Nat) : zpos tm a t (p + 1) = if t < tm (a p).toNat then zpos tm a t p else p + 1 := rfl
theorem zpos_le (tm a : Nat → Int) (t : Int) : ∀ p, zpos tm a t p ≤ p
  | 0 => Nat.le_refl 0
  | p + 1 => by
    have := zpos_le tm a t p
    rw [zpos_s]; split <;> omega
/-- the order by times: the first i laid in -/
def zord (tm : Nat → Int) : Nat → Nat → Int
  | 0, _ => 0
  | i + 1, j => if j < zpos tm (zord tm i) (tm i) i then zord tm i j else if j = zpos tm (zord tm i) (tm i) i then (i : Int) else zord tm i (j - 1)
theorem zord_s (tm : Nat → Int) (i j : Nat) : zord tm (i + 1) j = if j < zpos tm (zord tm i) (tm i) i then zord tm i j else if j = zpos tm (zord tm i) (tm i) i then (i : Int) else zord tm i (j - 1) := rfl
theorem zord_in (tm : Nat → Int) : ∀ i j, j < i → 0 ≤ zord tm i j ∧ zord tm i j < i
  | 0, j, h => by omega
  | i + 1, j, h => by
    have hp := zpos_le tm (zord tm i) (tm i) i
    rw [zord_s]
    split
    · have := zord_in tm i j (by omega); omega
    · split
      · omega
      · have := zord_in tm i (j - 1) (by omega); omega
theorem w2_Sg_sortPresses {G : zG} {X : zX} {n : Nat} {σ : zSt} {post : zPost} {i : Nat} (hn : 189 ≤ n) (hg : zGood σ 1) (hi : (i : Int) < σ 1 8) (kk : ∀ τ', (∀ a, a ≠ 43 → τ' a = σ a) → (∀ j, j < i + 1 → τ' 43 j = zord (σ 10) (i + 1) j) → Go G X m_Sg_sortPresses (0, 0, 0, 0, 0) n SH τ' 2 [(0, vr G 33), (1, vi ((i : Int) + 1))] [] post) : ∀ (m : Nat) (t : Nat) (x2 : Int) (τ : zSt), x2 = (t : Int) → (∀ a, a ≠ 43 → τ a = σ a) → (∀ j, j < t → τ 43 j = zord (σ 10) i j) → (∀ j, t < j → j ≤ i → τ 43 j = zord (σ 10) i (j - 1)) → zpos (σ 10) (zord (σ 10) i) (σ 10 i) i = zpos (σ 10) (zord (σ 10) i) (σ 10 i) t → t ≤ i → t < m → Go G X m_Sg_sortPresses (0, 0, 0, 0, 0) n SH τ 15 [(0, vr G 33), (1, vi (i : Int)), (2, vi x2)] [] (post) := by
  intro m
  induction m with
  | zero => intro t x2 τ e2 t1 t2 t3 e4 hti hm; exact absurd hm (by omega)
  | succ m ih =>
    intro t x2 τ e2 t1 t2 t3 e4 hti hm
    have hc : 0 ≤ σ 1 8 ∧ σ 1 8 ≤ 6 := hg.1.2.2
    subst e2
    have s1 : ∀ j, τ 10 j = σ 10 j := fun j => by rw [t1 10 (by decide)]
    have r1 : 0 ≤ σ 10 i ∧ σ 10 i ≤ 1999 := (hg.2.2.2 i (by omega)).2
    have s1i := s1 i
    refine g_iload_n (i := 2) (by decide +kernel) rfl ?_
    refine g_if_le (off := 51) (tgt := 67) (by decide +kernel) (by decide) ⟨by omega, by omega⟩ (fun h16 => ?_) (fun h16 => ?_)
    · have t0 : t = 0 := by omega
      subst t0
      have e4 : zpos (σ 10) (zord (σ 10) i) (σ 10 i) i = 0 := e4
      refine g_aload_n (i := 0) (by decide +kernel) rfl ?_
      refine g_getr f_Sg_22 (by decide +kernel) (by omega) rfl rfl ?_
      refine g_iload_n (i := 2) (by decide +kernel) rfl ?_
      refine g_iload_n (i := 1) (by decide +kernel) rfl ?_
      first
        | (refine g_iast (j := 0) (by decide +kernel) (by omega) rfl rfl (by omega) (by decide) ?_
           refine g_iinc (i := 1) (b := 1) (L' := [(0, _), (1, _), (2, _)]) (by decide +kernel) rfl rfl rfl ?_
           refine g_goto (off := -75) (tgt := 2) (by decide +kernel) (by decide) ?_
           refine g_less [0, 1] rfl (kk _ (fun a ha => by rw [zs_other ha]; exact t1 a ha) (fun j hj => ?_))
           rw [zs_row, zord_s, e4]
           by_cases e : j = 0
           · subst e; rw [zu_eq, if_neg (by omega), if_pos rfl]
           · rw [zu_ne e, if_neg (by omega), if_neg e]; exact t3 j (by omega) (by omega))
        | (refine g_iast (j := t + 1) (by decide +kernel) (by omega) rfl rfl (by omega) (by decide) ?_
           refine g_iinc (i := 1) (b := 1) (L' := [(0, _), (1, _), (2, _)]) (by decide +kernel) rfl rfl rfl ?_
           refine g_goto (off := -75) (tgt := 2) (by decide +kernel) (by decide) ?_
           refine g_less [0, 1] rfl (kk _ (fun a ha => by rw [zs_other ha]; exact t1 a ha) (fun j hj => ?_))
           rw [zs_row, zord_s, e4]
           by_cases e : j = t + 1
           · subst e; rw [zu_eq, if_neg (by omega), if_pos rfl]
           · rw [zu_ne e]
             by_cases e2 : j < t + 1
             · rw [if_pos e2]; exact t2 j e2
             · rw [if_neg e2, if_neg e]; exact t3 j (by omega) (by omega))
    · obtain ⟨t, rfl⟩ : ∃ u, t = u + 1 := ⟨t - 1, by omega⟩
      have s2 := t2 t (by omega)
      have r2 := zord_in (σ 10) i t (by omega)
      have r3 : 0 ≤ σ 10 (zord (σ 10) i t).toNat ∧ σ 10 (zord (σ 10) i t).toNat ≤ 1999 := (hg.2.2.2 _ (by omega)).2
      have s3 := s1 (zord (σ 10) i t).toNat
      rw [zpos_s] at e4
      refine g_aload_n (i := 0) (by decide +kernel) rfl ?_
      refine g_getr f_Sg_29 (by decide +kernel) (by omega) rfl rfl ?_
      refine g_getr f_Sg_64 (by decide +kernel) (by omega) rfl rfl ?_
      refine g_aload_n (i := 0) (by decide +kernel) rfl ?_
      refine g_getr f_Sg_22 (by decide +kernel) (by omega) rfl rfl ?_
      refine g_iload_n (i := 2) (by decide +kernel) rfl ?_
      refine g_iconst (a := 1) (by decide +kernel) ?_
      refine g_isub (by decide +kernel) ?_
      refine g_iald (j := t) (by decide +kernel) (by omega) rfl (by push_cast; omega) (by omega) (by decide) ?_
      refine g_iald (j := (zord (σ 10) i t).toNat) (by decide +kernel) (by omega) rfl (by omega) (by omega) (by decide) ?_
      refine g_aload_n (i := 0) (by decide +kernel) rfl ?_
      refine g_getr f_Sg_29 (by decide +kernel) (by omega) rfl rfl ?_
      refine g_getr f_Sg_64 (by decide +kernel) (by omega) rfl rfl ?_
      refine g_iload_n (i := 1) (by decide +kernel) rfl ?_
      refine g_iald (j := i) (by decide +kernel) (by omega) rfl rfl (by omega) (by decide) ?_
      refine g_icmp_le (off := 23) (tgt := 67) (by decide +kernel) (by decide) ⟨by omega, by omega⟩ ⟨by omega, by omega⟩ (fun h44 => ?_) (fun h44 => ?_)
      · rw [if_neg (by omega)] at e4
        refine g_aload_n (i := 0) (by decide +kernel) rfl ?_
        refine g_getr f_Sg_22 (by decide +kernel) (by omega) rfl rfl ?_
        refine g_iload_n (i := 2) (by decide +kernel) rfl ?_
        refine g_iload_n (i := 1) (by decide +kernel) rfl ?_
        first
          | (refine g_iast (j := 0) (by decide +kernel) (by omega) rfl rfl (by omega) (by decide) ?_
             refine g_iinc (i := 1) (b := 1) (L' := [(0, _), (1, _), (2, _)]) (by decide +kernel) rfl rfl rfl ?_
             refine g_goto (off := -75) (tgt := 2) (by decide +kernel) (by decide) ?_
             refine g_less [0, 1] rfl (kk _ (fun a ha => by rw [zs_other ha]; exact t1 a ha) (fun j hj => ?_))
             rw [zs_row, zord_s, e4]
             by_cases e : j = 0
             · subst e; rw [zu_eq, if_neg (by omega), if_pos rfl]
             · rw [zu_ne e, if_neg (by omega), if_neg e]; exact t3 j (by omega) (by omega))
          | (refine g_iast (j := t + 1) (by decide +kernel) (by omega) rfl rfl (by omega) (by decide) ?_
             refine g_iinc (i := 1) (b := 1) (L' := [(0, _), (1, _), (2, _)]) (by decide +kernel) rfl rfl rfl ?_
             refine g_goto (off := -75) (tgt := 2) (by decide +kernel) (by decide) ?_
             refine g_less [0, 1] rfl (kk _ (fun a ha => by rw [zs_other ha]; exact t1 a ha) (fun j hj => ?_))
             rw [zs_row, zord_s, e4]
             by_cases e : j = t + 1
             · subst e; rw [zu_eq, if_neg (by omega), if_pos rfl]
             · rw [zu_ne e]
               by_cases e2 : j < t + 1
               · rw [if_pos e2]; exact t2 j e2
               · rw [if_neg e2, if_neg e]; exact t3 j (by omega) (by omega))
      · rw [if_pos (by omega)] at e4
        refine g_aload_n (i := 0) (by decide +kernel) rfl ?_
        refine g_getr f_Sg_22 (by decide +kernel) (by omega) rfl rfl ?_
        refine g_iload_n (i := 2) (by decide +kernel) rfl ?_
        refine g_aload_n (i := 0) (by decide +kernel) rfl ?_
        refine g_getr f_Sg_22 (by decide +kernel) (by omega) rfl rfl ?_
        refine g_iload_n (i := 2) (by decide +kernel) rfl ?_
        refine g_iconst (a := 1) (by decide +kernel) ?_
        refine g_isub (by decide +kernel) ?_
        refine g_iald (j := t) (by decide +kernel) (by omega) rfl (by push_cast; omega) (by omega) (by decide) ?_
        refine g_iast (j := t + 1) (by decide +kernel) (by omega) rfl rfl (by omega) (by decide) ?_
        refine g_iinc (i := 2) (b := -1) (L' := [(0, _), (1, _), (2, _)]) (by decide +kernel) rfl rfl rfl ?_
        refine g_goto (off := -49) (tgt := 15) (by decide +kernel) (by decide) ?_
        exact ih t _ _ (by push_cast; omega) (fun a ha => by rw [zs_other ha]; exact t1 a ha) (fun j hj => by rw [zs_row, zu_ne (by omega)]; exact t2 j (by omega)) (fun j h1 h2 => by
          by_cases e : j = t + 1
          · subst e; rw [zs_row, zu_eq]; simpa using s2
          · rw [zs_row, zu_ne e]; exact t3 j (by omega) h2) e4 (by omega) (by omega)
theorem w_Sg_sortPresses {G : zG} {X : zX} {n : Nat} {σ : zSt} (hn : 189 ≤ n) (hg : zGood σ 1) : ∀ (m : Nat) (i : Nat) (x1 : Int) (τ : zSt), x1 = (i : Int) → (∀ a, a ≠ 43 → τ a = σ a) → (∀ j, j < i → τ 43 j = zord (σ 10) i j) → i ≤ (σ 1 8).toNat → (σ 1 8).toNat < i + m → Go G X m_Sg_sortPresses (0, 0, 0, 0, 0) n SH τ 2 [(0, vr G 33), (1, vi x1)] [] (zV n SH (fun σ' => (∀ a, a ≠ 43 → σ' a = σ a) ∧ ∀ j : Nat, (j : Int) < σ 1 8 → σ' 43 j = zord (σ 10) (σ 1 8).toNat j)) := by
  intro m
  induction m with
  | zero => intro i x1 τ e1 t1 t2 hi hm; exact absurd hm (by omega)
  | succ m ih =>
    intro i x1 τ e1 t1 t2 hi hm
    have hc : 0 ≤ σ 1 8 ∧ σ 1 8 ≤ 6 := hg.1.2.2
    subst e1
    have s0 : τ 1 8 = σ 1 8 := by rw [t1 1 (by decide)]
    refine g_iload_n (i := 1) (by decide +kernel) rfl ?_
    refine g_aload_n (i := 0) (by decide +kernel) rfl ?_
    refine g_getr f_Sg_29 (by decide +kernel) (by omega) rfl rfl ?_
    refine g_geti f_Sg_59 (by decide +kernel) (by omega) rfl rfl ?_
    refine g_icmp_ge (off := 70) (tgt := 80) (by decide +kernel) (by decide) ⟨by omega, by omega⟩ ⟨by omega, by omega⟩ (fun h10 => ?_) (fun h10 => ?_)
    · refine g_retV (by decide +kernel) rfl ⟨by decide, by decide⟩ ?_
      have e : i = (σ 1 8).toNat := by omega
      subst e
      exact ⟨t1, fun j hj => t2 j (by omega)⟩
    · refine g_iload_n (i := 1) (by decide +kernel) rfl ?_
      refine g_istore_n (i := 2) (L' := [(0, _), (1, _), (2, _)]) (by decide +kernel) rfl rfl ?_
      refine w2_Sg_sortPresses (σ := σ) hn hg (by omega) (fun τ' h1 h2 => ih (i + 1) _ τ' (by push_cast; rfl) h1 h2 (by omega) (by omega)) (i + 1) i _ τ rfl t1 t2 (fun j h1 h2 => by omega) rfl (by omega) (by omega)
theorem c_Sg_sortPresses {G : zG} {n : Nat} {σ : zSt} (hn : 189 ≤ n) (hg : zGood σ 1) : Gm G y_Sg_sortPresses m_Sg_sortPresses 0 0 0 [vr G 33] n SH σ (zV n SH (fun σ' => (∀ a, a ≠ 43 → σ' a = σ a) ∧ ∀ j : Nat, (j : Int) < σ 1 8 → σ' 43 j = zord (σ 10) (σ 1 8).toNat j)) := by
  refine g_enter (L := [(0, _)]) (by decide) rfl rfl rfl (Nat.le_of_ble_eq_true rfl) (fun X => ?_)
  have hc : 0 ≤ σ 1 8 ∧ σ 1 8 ≤ 6 := hg.1.2.2
  refine g_iconst (a := 0) (by decide +kernel) ?_
  refine g_istore_n (i := 1) (L' := [(0, _), (1, _)]) (by decide +kernel) rfl rfl ?_
  exact w_Sg_sortPresses hn hg 7 0 _ σ rfl (fun _ _ => rfl) (fun j hj => by omega) (by omega) (by omega)
end
section
/-- leaf j stands ahead of (layer L, number below c) -/
def zAh (S : zSt) (L : Int) (c j : Nat) : Bool := decide (S 1 j = 0 ∧ (L < S 7 (9 * j + 6) ∨ (S 7 (9 * j + 6) = L ∧ c ≤ j)))
/-- how many stand ahead of leaf k -/
def zpo (S : zSt) (k : Nat) : Nat := zcnt (zAh S (S 7 (9 * k + 6)) (k + 1)) (zN S)
/-- the leaves as they stand: the i-th has i ahead of it -/
def zStand (S : zSt) (sd : Nat → Int) (m : Nat) : Prop := ∀ i, i < m → 0 ≤ sd i ∧ (sd i).toNat < zN S ∧ S 1 (sd i).toNat = 0 ∧ zpo S (sd i).toNat = i
theorem zStand.inj {S : zSt} {sd : Nat → Int} {m : Nat} (h : zStand S sd m) : ∀ i j, i < m → j < m → sd i = sd j → i = j := fun i j hi hj e => by
  have a := (h i hi).2.2.2
  have b := (h j hj).2.2.2
  rw [e] at a
  omega
theorem zcnt_mono {p q : Nat → Bool} : ∀ {n : Nat}, (∀ j, j < n → p j = true → q j = true) → zcnt p n ≤ zcnt q n
  | 0, _ => Nat.le_refl 0
  | n + 1, h => by
    have a := zcnt_mono (fun j hj => h j (by omega)) (n := n)
    unfold zcnt
    cases hp : p n with
    | true => rw [h n (by omega) hp]; omega
    | false => simp; omega
/-- two leaves stand at two places -/
theorem zpo_lt {S : zSt} {j k : Nat} (hj : j < zN S) (hl : S 1 j = 0) (h : S 7 (9 * k + 6) < S 7 (9 * j + 6) ∨ (S 7 (9 * j + 6) = S 7 (9 * k + 6) ∧ k < j)) : zpo S j < zpo S k := by
  unfold zpo
  have a : ∀ i, i < zN S → zAh S (S 7 (9 * j + 6)) (j + 1) i = true → zAh S (S 7 (9 * k + 6)) (k + 1) i = true := fun i _ hi => decide_eq_true (by have := of_decide_eq_true hi; omega)
  have b : zAh S (S 7 (9 * j + 6)) (j + 1) j = false := decide_eq_false (by omega)
  have c : zAh S (S 7 (9 * k + 6)) (k + 1) j = true := decide_eq_true (by omega)
  have key : ∀ n, j < n → (∀ i, i < n → zAh S (S 7 (9 * j + 6)) (j + 1) i = true → zAh S (S 7 (9 * k + 6)) (k + 1) i = true) → zcnt (zAh S (S 7 (9 * j + 6)) (j + 1)) n < zcnt (zAh S (S 7 (9 * k + 6)) (k + 1)) n := by
    intro n
    induction n with
    | zero => intro h1; omega
    | succ n ih =>
      intro h1 h2
      rcases Nat.lt_or_ge j n with z | z
      · have := ih z (fun i hi => h2 i (by omega))
        unfold zcnt
        cases hp : zAh S (S 7 (9 * j + 6)) (j + 1) n with
        | true => rw [h2 n (by omega) hp]; omega
        | false => simp; omega
      · have e : n = j := by omega
        subst e
        have := zcnt_mono (p := zAh S (S 7 (9 * n + 6)) (n + 1)) (q := zAh S (S 7 (9 * k + 6)) (k + 1)) (n := n) (fun i hi => h2 i (by omega))
        rw [zcnt_f b, zcnt_t c]
        omega
  exact key _ hj a
theorem zpo_inj {S : zSt} {j k : Nat} (hj : j < zN S) (hk : k < zN S) (lj : S 1 j = 0) (lk : S 1 k = 0) (e : zpo S j = zpo S k) : j = k := by
  by_cases h : j = k
  · exact h
  · exfalso
    by_cases a : S 7 (9 * k + 6) < S 7 (9 * j + 6) ∨ (S 7 (9 * j + 6) = S 7 (9 * k + 6) ∧ k < j)
    · have := zpo_lt hj lj a; omega
    · have := zpo_lt hk lk (j := k) (k := j) (by omega); omega
/-- one order alone -/
theorem zStand_uniq {S : zSt} {sd sd' : Nat → Int} {m : Nat} (h : zStand S sd m) (h' : zStand S sd' m) : ∀ i, i < m → sd i = sd' i := fun i hi => by
  have a := h i hi
  have b := h' i hi
  have := zpo_inj a.2.1 b.2.1 a.2.2.1 b.2.2.1 (by rw [a.2.2.2, b.2.2.2])
  omega
theorem zAh_step {S : zSt} {L : Int} {k N : Nat} (h1 : S 1 k = 0) (h7 : S 7 (9 * k + 6) = L) (hk : k < N) : zcnt (zAh S L k) N = zcnt (zAh S L (k + 1)) N + 1 := by
  have a : zAh S L k k = true := decide_eq_true ⟨h1, Or.inr ⟨h7, Nat.le_refl _⟩⟩
  have b : zAh S L (k + 1) k = false := decide_eq_false (by omega)
  have c : ∀ j, j ≠ k → zAh S L k j = zAh S L (k + 1) j := fun j hj => by unfold zAh; rw [Bool.eq_iff_iff]; simp only [decide_eq_true_eq]; omega
  have key : ∀ n, k < n → zcnt (zAh S L k) n = zcnt (zAh S L (k + 1)) n + 1 := by
    intro n
    induction n with
    | zero => intro h; omega
    | succ n ih =>
      intro h
      rcases Nat.lt_or_ge k n with z | z
      · have := ih z
        unfold zcnt
        rw [c n (by omega)]
        omega
      · have e : n = k := by omega
        subst e
        rw [zcnt_t a, zcnt_f b, zcnt_congr (fun j hj => c j (by omega))]
  exact key N hk
theorem w2_Sg_standLeaves {G : zG} {X : zX} {n : Nat} {σ : zSt} {post : zPost} {x1 : Int} (hn : 189 ≤ n) (hg : zGood σ 1) (hly : ∀ k, k < (σ 1 0).toNat → 0 ≤ σ 8 (9 * k + 6) ∧ σ 8 (9 * k + 6) ≤ 9) (h1 : 0 ≤ x1 ∧ x1 ≤ 9) (kk : ∀ τ', ((∀ a, a ≠ 44 → a ≠ 33 → τ' a = σ a) ∧ (∀ j, j ≠ 6 → τ' 33 j = σ 33 j) ∧ τ' 33 6 = (zcnt (zAh (zSv σ 1) x1 0) (σ 1 0).toNat : Int) ∧ zStand (zSv σ 1) (τ' 44) (zcnt (zAh (zSv σ 1) x1 0) (σ 1 0).toNat)) → Go G X m_Sg_standLeaves (1, 0, 0, 0, 0) n SH τ' 12 [(0, vr G 33), (1, vi (x1 - 1))] [] post) : ∀ (m : Nat) (c : Nat) (x2 : Int) (τ : zSt), x2 = (c : Int) - 1 → ((∀ a, a ≠ 44 → a ≠ 33 → τ a = σ a) ∧ (∀ j, j ≠ 6 → τ 33 j = σ 33 j) ∧ τ 33 6 = (zcnt (zAh (zSv σ 1) x1 c) (σ 1 0).toNat : Int) ∧ zStand (zSv σ 1) (τ 44) (zcnt (zAh (zSv σ 1) x1 c) (σ 1 0).toNat)) → c ≤ (σ 1 0).toNat → c < m → Go G X m_Sg_standLeaves (1, 0, 0, 0, 0) n SH τ 26 [(0, vr G 33), (1, vi x1), (2, vi x2)] [] (post) := by
  intro m
  induction m with
  | zero => intro c x2 τ e2 ht hi hm; exact absurd hm (by omega)
  | succ m ih =>
    intro c x2 τ e2 ht hi hm
    have hc := hg.1
    have hc0 : 0 ≤ σ 1 0 ∧ σ 1 0 ≤ 12 := ⟨hc.1, hc.2.1⟩
    obtain ⟨t1, t2, t3, t4⟩ := id ht
    have cl := zcnt_le (zAh (zSv σ 1) x1 c) (σ 1 0).toNat
    refine g_iload_n (i := 2) (by decide +kernel) rfl ?_
    refine g_if_lt (off := 55) (tgt := 82) (by decide +kernel) (by decide) ⟨by omega, by omega⟩ (fun h27 => ?_) (fun h27 => ?_)
    · have c0 : c = 0 := by omega
      subst c0
      refine g_iinc (i := 1) (b := -1) (L' := [(0, _), (1, _), (2, _)]) (by decide +kernel) rfl rfl rfl ?_
      refine g_goto (off := -73) (tgt := 12) (by decide +kernel) (by decide) ?_
      refine g_less [0, 1] rfl (kk _ ht)
    · obtain ⟨k, rfl⟩ : ∃ k, c = k + 1 := ⟨c - 1, by omega⟩
      have ex : x2 = (k : Int) := by omega
      subst ex
      have k1 : τ 2 k = σ 2 k := by rw [t1 2 (by decide) (by decide)]
      have kd : 0 ≤ σ 2 k ∧ σ 2 k ≤ 2 := (hg.2.1 k (by omega)).1
      have m6 : τ 8 (9 * k + 6) = σ 8 (9 * k + 6) := by rw [t1 8 (by decide) (by decide)]
      have l6 := hly k (by omega)
      refine g_aload_n (i := 0) (by decide +kernel) rfl ?_
      refine g_getr f_Sg_29 (by decide +kernel) (by omega) rfl rfl ?_
      refine g_getr f_Sg_96 (by decide +kernel) (by omega) rfl rfl ?_
      refine g_iload_n (i := 2) (by decide +kernel) rfl ?_
      refine g_iald (j := k) (by decide +kernel) (by omega) rfl rfl (by omega) (by decide) ?_
      refine g_if_ne (off := 37) (tgt := 76) (by decide +kernel) (by decide) ⟨by omega, by omega⟩ (fun h39 => ?_) (fun h39 => ?_)
      · have hA : ∀ j, zAh (zSv σ 1) x1 k j = zAh (zSv σ 1) x1 (k + 1) j := fun j => by
          by_cases e : j = k
          · subst e
            have : ¬ zSv σ 1 1 j = 0 := by show ¬ σ 2 j = 0; omega
            unfold zAh; simp [this]
          · unfold zAh; rw [Bool.eq_iff_iff]; simp only [decide_eq_true_eq]; omega
        refine g_iinc (i := 2) (b := -1) (L' := [(0, _), (1, _), (2, _)]) (by decide +kernel) rfl rfl rfl ?_
        refine g_goto (off := -53) (tgt := 26) (by decide +kernel) (by decide) ?_
        first
          | exact ih k _ _ rfl (by rw [show zAh (zSv σ 1) x1 k = zAh (zSv σ 1) x1 (k + 1) from funext hA]; exact ht) (by omega) (by omega)
          | refine ih k _ _ rfl ⟨fun a h1 h2 => by rw [zs_other h2, zs_other h1]; exact t1 a h1 h2, fun j hj => by rw [zs_row, zu_ne hj, zs_other (by decide)]; exact t2 j hj, by rw [zs_eq, zs_other (by decide), t3, cA]; push_cast; rfl, ?_⟩ (by omega) (by omega)
            rw [zs_other (by decide), zs_row, cA]
            intro i hi2
            by_cases e : i = zcnt (zAh (zSv σ 1) x1 (k + 1)) (σ 1 0).toNat
            · subst e
              rw [zu_eq]
              exact ⟨by omega, by rw [Int.toNat_natCast]; exact hk, by rw [Int.toNat_natCast]; exact q1, by rw [Int.toNat_natCast]; exact po⟩
            · rw [zu_ne e]
              exact t4 i (by omega)
      · refine g_aload_n (i := 0) (by decide +kernel) rfl ?_
        refine g_getr f_Sg_29 (by decide +kernel) (by omega) rfl rfl ?_
        refine g_iload_n (i := 2) (by decide +kernel) rfl ?_
        refine g_bipush (a := 6) (by decide +kernel) (by decide) ?_
        refine g_cVI (st := []) (c_Sh_markOf (b := 1) (k := k) (w := 6) hn sh_1 (by omega) (by decide)) k_Sh_markOf l_Sg_99 (by decide +kernel) (by omega) rfl rfl rfl rfl (Nat.le_of_ble_eq_true rfl) (by decide) ⟨by decide, by decide⟩ ?_
        rintro a σ1 ⟨ea, hσ⟩
        obtain rfl := hσ.symm
        have ea : a = τ 8 (9 * k + 6) := ea
        subst ea
        refine g_iload_n (i := 1) (by decide +kernel) rfl ?_
        refine g_icmp_ne (off := 23) (tgt := 76) (by decide +kernel) (by decide) ⟨by omega, by omega⟩ ⟨by omega, by omega⟩ (fun h53 => ?_) (fun h53 => ?_)
        · have hA : ∀ j, zAh (zSv σ 1) x1 k j = zAh (zSv σ 1) x1 (k + 1) j := fun j => by
            by_cases e : j = k
            · subst e
              have : ¬ zSv σ 1 7 (9 * j + 6) = x1 := by show ¬ σ 8 (9 * j + 6) = x1; omega
              unfold zAh; rw [Bool.eq_iff_iff]; simp only [decide_eq_true_eq]; omega
            · unfold zAh; rw [Bool.eq_iff_iff]; simp only [decide_eq_true_eq]; omega
          refine g_iinc (i := 2) (b := -1) (L' := [(0, _), (1, _), (2, _)]) (by decide +kernel) rfl rfl rfl ?_
          refine g_goto (off := -53) (tgt := 26) (by decide +kernel) (by decide) ?_
          first
            | exact ih k _ _ rfl (by rw [show zAh (zSv σ 1) x1 k = zAh (zSv σ 1) x1 (k + 1) from funext hA]; exact ht) (by omega) (by omega)
            | refine ih k _ _ rfl ⟨fun a h1 h2 => by rw [zs_other h2, zs_other h1]; exact t1 a h1 h2, fun j hj => by rw [zs_row, zu_ne hj, zs_other (by decide)]; exact t2 j hj, by rw [zs_eq, zs_other (by decide), t3, cA]; push_cast; rfl, ?_⟩ (by omega) (by omega)
              rw [zs_other (by decide), zs_row, cA]
              intro i hi2
              by_cases e : i = zcnt (zAh (zSv σ 1) x1 (k + 1)) (σ 1 0).toNat
              · subst e
                rw [zu_eq]
                exact ⟨by omega, by rw [Int.toNat_natCast]; exact hk, by rw [Int.toNat_natCast]; exact q1, by rw [Int.toNat_natCast]; exact po⟩
              · rw [zu_ne e]
                exact t4 i (by omega)
        · have q1 : zSv σ 1 1 k = 0 := by show σ 2 k = 0; omega
          have q7 : zSv σ 1 7 (9 * k + 6) = x1 := by show σ 8 (9 * k + 6) = x1; omega
          have hk : k < (σ 1 0).toNat := by omega
          have cA : zcnt (zAh (zSv σ 1) x1 k) (σ 1 0).toNat = zcnt (zAh (zSv σ 1) x1 (k + 1)) (σ 1 0).toNat + 1 := zAh_step q1 q7 hk
          have po : zpo (zSv σ 1) k = zcnt (zAh (zSv σ 1) x1 (k + 1)) (σ 1 0).toNat := by unfold zpo; rw [q7]; rfl
          have cl2 := zcnt_le (zAh (zSv σ 1) x1 k) (σ 1 0).toNat
          refine g_aload_n (i := 0) (by decide +kernel) rfl ?_
          refine g_getr f_Sg_26 (by decide +kernel) (by omega) rfl rfl ?_
          refine g_aload_n (i := 0) (by decide +kernel) rfl ?_
          refine g_geti f_Sg_87 (by decide +kernel) (by omega) rfl rfl ?_
          refine g_iload_n (i := 2) (by decide +kernel) rfl ?_
          refine g_iast (j := zcnt (zAh (zSv σ 1) x1 (k + 1)) (σ 1 0).toNat) (by decide +kernel) (by omega) rfl t3 (by omega) (by decide) ?_
          refine g_aload_n (i := 0) (by decide +kernel) rfl ?_
          refine g_dup (by decide +kernel) rfl ?_
          refine g_geti f_Sg_87 (by decide +kernel) (by omega) rfl rfl ?_
          refine g_iconst (a := 1) (by decide +kernel) ?_
          refine g_iadd (by decide +kernel) ?_
          refine g_puti f_Sg_87 (by decide +kernel) (by omega) rfl rfl ?_
          refine g_iinc (i := 2) (b := -1) (L' := [(0, _), (1, _), (2, _)]) (by decide +kernel) rfl rfl rfl ?_
          refine g_goto (off := -53) (tgt := 26) (by decide +kernel) (by decide) ?_
          first
            | exact ih k _ _ rfl (by rw [show zAh (zSv σ 1) x1 k = zAh (zSv σ 1) x1 (k + 1) from funext hA]; exact ht) (by omega) (by omega)
            | refine ih k _ _ rfl ⟨fun a h1 h2 => by rw [zs_other h2, zs_other h1]; exact t1 a h1 h2, fun j hj => by rw [zs_row, zu_ne hj, zs_other (by decide)]; exact t2 j hj, by rw [zs_eq, zs_other (by decide), t3, cA]; push_cast; rfl, ?_⟩ (by omega) (by omega)
              rw [zs_other (by decide), zs_row, cA]
              intro i hi2
              by_cases e : i = zcnt (zAh (zSv σ 1) x1 (k + 1)) (σ 1 0).toNat
              · subst e
                rw [zu_eq]
                exact ⟨by omega, by rw [Int.toNat_natCast]; exact hk, by rw [Int.toNat_natCast]; exact q1, by rw [Int.toNat_natCast]; exact po⟩
              · rw [zu_ne e]
                exact t4 i (by omega)
theorem w_Sg_standLeaves {G : zG} {X : zX} {n : Nat} {σ : zSt} (hn : 189 ≤ n) (hg : zGood σ 1) (hly : ∀ k, k < (σ 1 0).toNat → 0 ≤ σ 8 (9 * k + 6) ∧ σ 8 (9 * k + 6) ≤ 9) : ∀ (m : Nat) (l : Nat) (x1 : Int) (τ : zSt) (L2 : List (Nat × Value)), x1 = (l : Int) - 1 → ((∀ a, a ≠ 44 → a ≠ 33 → τ a = σ a) ∧ (∀ j, j ≠ 6 → τ 33 j = σ 33 j) ∧ τ 33 6 = (zcnt (zAh (zSv σ 1) x1 (σ 1 0).toNat) (σ 1 0).toNat : Int) ∧ zStand (zSv σ 1) (τ 44) (zcnt (zAh (zSv σ 1) x1 (σ 1 0).toNat) (σ 1 0).toNat)) → (L2 = [] ∨ ∃ v, L2 = [(2, vi v)]) → l ≤ 10 → l < m → Go G X m_Sg_standLeaves (1, 0, 0, 0, 0) n SH τ 12 ([(0, vr G 33), (1, vi x1)] ++ L2) [] (zV n SH (fun σ' => (∀ a, a ≠ 44 → a ≠ 33 → σ' a = σ a) ∧ (∀ j, j ≠ 6 → σ' 33 j = σ 33 j) ∧ σ' 33 6 = (zcnt (fun j => decide (σ 2 j = 0)) (σ 1 0).toNat : Int) ∧ zStand (zSv σ 1) (σ' 44) (zcnt (fun j => decide (σ 2 j = 0)) (σ 1 0).toNat))) := by
  intro m
  induction m with
  | zero => intro l x1 τ L2 e1 ht h2 hi hm; exact absurd hm (by omega)
  | succ m ih =>
    intro l x1 τ L2 e1 ht h2 hi hm
    have hc0 : 0 ≤ σ 1 0 ∧ σ 1 0 ≤ 12 := ⟨hg.1.1, hg.1.2.1⟩
    obtain ⟨t1, t2, t3, t4⟩ := id ht
    have s0 : τ 1 0 = σ 1 0 := by rw [t1 1 (by decide) (by decide)]
    refine g_less [0, 1] (L' := [(0, vr G 33), (1, vi x1)]) (by rcases h2 with rfl | ⟨v, rfl⟩ <;> rfl) ?_
    refine g_iload_n (i := 1) (by decide +kernel) rfl ?_
    refine g_if_lt (off := 75) (tgt := 88) (by decide +kernel) (by decide) ⟨by omega, by omega⟩ (fun h13 => ?_) (fun h13 => ?_)
    · refine g_retV (by decide +kernel) rfl ⟨by decide, by decide⟩ ?_
      have e : ∀ j, j < (σ 1 0).toNat → zAh (zSv σ 1) x1 (σ 1 0).toNat j = decide (σ 2 j = 0) := fun j hj => by
        have a := hly j hj
        have b : zSv σ 1 7 (9 * j + 6) = σ 8 (9 * j + 6) := rfl
        have c : zSv σ 1 1 j = σ 2 j := rfl
        unfold zAh; rw [Bool.eq_iff_iff]; simp only [decide_eq_true_eq]; omega
      rw [zcnt_congr e] at t3 t4
      exact ⟨t1, t2, t3, t4⟩
    · refine g_aload_n (i := 0) (by decide +kernel) rfl ?_
      refine g_getr f_Sg_29 (by decide +kernel) (by omega) rfl rfl ?_
      refine g_geti f_Sg_80 (by decide +kernel) (by omega) rfl rfl ?_
      refine g_iconst (a := 1) (by decide +kernel) ?_
      refine g_isub (by decide +kernel) ?_
      refine g_istore_n (i := 2) (L' := [(0, _), (1, _), (2, _)]) (by decide +kernel) rfl rfl ?_
      refine w2_Sg_standLeaves (σ := σ) hn hg hly ⟨by omega, by omega⟩ (fun τ' h => ?_) ((σ 1 0).toNat + 1) (σ 1 0).toNat _ τ (by omega) ht (by omega) (by omega)
      refine ih (l - 1) _ τ' [] (by omega) ?_ (Or.inl rfl) (by omega) (by omega)
      have e : ∀ j, j < (σ 1 0).toNat → zAh (zSv σ 1) (x1 - 1) (σ 1 0).toNat j = zAh (zSv σ 1) x1 0 j := fun j hj => by
        unfold zAh; rw [Bool.eq_iff_iff]; simp only [decide_eq_true_eq]; omega
      rw [zcnt_congr e]
      exact h
theorem c_Sg_standLeaves {G : zG} {n : Nat} {σ : zSt} (hn : 189 ≤ n) (hg : zGood σ 1) (hly : ∀ k, k < (σ 1 0).toNat → 0 ≤ σ 8 (9 * k + 6) ∧ σ 8 (9 * k + 6) ≤ 9) : Gm G y_Sg_standLeaves m_Sg_standLeaves 1 0 0 [vr G 33] n SH σ (zV n SH (fun σ' => (∀ a, a ≠ 44 → a ≠ 33 → σ' a = σ a) ∧ (∀ j, j ≠ 6 → σ' 33 j = σ 33 j) ∧ σ' 33 6 = (zcnt (fun j => decide (σ 2 j = 0)) (σ 1 0).toNat : Int) ∧ zStand (zSv σ 1) (σ' 44) (zcnt (fun j => decide (σ 2 j = 0)) (σ 1 0).toNat))) := by
  refine g_enter (L := [(0, _)]) (by decide) rfl rfl rfl (Nat.le_of_ble_eq_true rfl) (fun X => ?_)
  have hc0 : 0 ≤ σ 1 0 ∧ σ 1 0 ≤ 12 := ⟨hg.1.1, hg.1.2.1⟩
  refine g_aload_n (i := 0) (by decide +kernel) rfl ?_
  refine g_iconst (a := 0) (by decide +kernel) ?_
  refine g_puti f_Sg_87 (by decide +kernel) (by omega) rfl rfl ?_
  refine g_getsN (x := 93) 1 (by decide) (by decide +kernel) (by decide) ?_
  refine g_bipush (a := 6) (by decide +kernel) (by decide) ?_
  refine g_tald 1 (by decide) (j := 6) (by decide +kernel) rfl (by show _ < 9; omega) ?_
  refine g_istore_n (i := 1) (L' := [(0, _), (1, _)]) (by decide +kernel) rfl rfl ?_
  have e : ∀ j, j < (σ 1 0).toNat → zAh (zSv σ 1) 9 (σ 1 0).toNat j = false := fun j hj => by
    have a := hly j hj
    have b : zSv σ 1 7 (9 * j + 6) = σ 8 (9 * j + 6) := rfl
    exact decide_eq_false (by omega)
  have z : zcnt (zAh (zSv σ 1) 9 (σ 1 0).toNat) (σ 1 0).toNat = 0 := by
    rw [zcnt_congr (q := fun _ => false) e]
    generalize (σ 1 0).toNat = N
    induction N with
    | zero => rfl
    | succ N ih => rw [zcnt_f rfl]; exact ih
  exact w_Sg_standLeaves hn hg hly 11 10 9 _ [] rfl ⟨fun a h1 h2 => zs_other h2, fun j hj => by rw [zs_row, zu_ne hj], by rw [z, zs_eq]; rfl, by rw [z]; exact fun i hi => by omega⟩ (Or.inl rfl) (by omega) (by omega)
end
section
/-- the moment at press j, seen from moment p -/
def zTh (σ : zSt) (p j : Nat) : Nat := if σ 10 j = σ p 0 then p else 45 + 8 * j
/-- whether clip k begins by the i-th press -/
def zbp (σ : zSt) (p k i : Nat) : Bool := decide (σ 9 (σ 43 i).toNat = σ 7 (σ 25 k).toNat ∧ σ 10 (σ 43 i).toNat ≤ σ p 0 ∧ σ (zTh σ p (σ 43 i).toNat + 1) (σ 3 k).toNat = 2) && zsame (σ 3) (σ (p + 3)) (σ (zTh σ p (σ 43 i).toNat + 3)) 12 (σ 3 k)
def zBP (σ : zSt) (p k : Nat) : Int := if zfst (zbp σ p k) (σ 1 8).toNat = -1 then -1 else σ (zTh σ p (σ 43 (zfst (zbp σ p k) (σ 1 8).toNat).toNat).toNat + 2) (σ 3 k).toNat + σ 24 k
theorem zBP_at {σ : zSt} {p k i : Nat} (h : ∀ j, j < i → zbp σ p k j = false) (hi : zbp σ p k i = true) (hn : i < (σ 1 8).toNat) : zBP σ p k = σ (zTh σ p (σ 43 i).toNat + 2) (σ 3 k).toNat + σ 24 k := by
  unfold zBP
  rw [zfst_at h hi hn, if_neg (by omega), Int.toNat_natCast]
theorem zBP_no {σ : zSt} {p k : Nat} (h : ∀ j, j < (σ 1 8).toNat → zbp σ p k j = false) : zBP σ p k = -1 := by
  unfold zBP
  rw [zfst_none h, if_pos rfl]
theorem w_Sg_begunByPress {G : zG} {X : zX} {n : Nat} {σ : zSt} {p k : Nat} (hn : 189 ≤ n) (hP : zMo SH p) (hp2 : 34 ≤ p) (hk : k < 12) (hg : zGood σ 1) (rp : zMr σ p) (rA : ∀ j, j < 6 → zMr σ (45 + 8 * j)) (hor : ∀ i, i < (σ 1 8).toNat → 0 ≤ σ 43 i ∧ σ 43 i < 6) (h3 : 0 ≤ σ 3 k ∧ σ 3 k ≤ 11) (h25 : 0 ≤ σ 25 k ∧ σ 25 k ≤ 11) : ∀ (m : Nat) (i : Nat) (x5 : Int), x5 = (i : Int) → (∀ j, j < i → zbp σ p k j = false) → i ≤ (σ 1 8).toNat → (σ 1 8).toNat < i + m → Go G X m_Sg_begunByPress (1, 0, 0, 0, 0) n SH σ 32 [(0, vr G 33), (1, vr G p), (2, vi k), (3, vi (σ 3 k)), (4, vi (σ 7 (σ 25 k).toNat)), (5, vi x5)] [] (zI n SH (fun a σ' => a = zBP σ p k ∧ σ' = σ)) := by
  intro m
  induction m with
  | zero => intro i x5 e5 hb hi hm; exact absurd hm (by omega)
  | succ m ih =>
    intro i x5 e5 hb hi hm
    have hp := hP.1
    have hc : 0 ≤ σ 1 8 ∧ σ 1 8 ≤ 6 := hg.1.2.2
    have rt := rp.1
    have k7 : 0 ≤ σ 7 (σ 25 k).toNat ∧ σ 7 (σ 25 k).toNat ≤ 999 := (hg.2.1 _ (by omega)).2.2.2.2.2
    subst e5
    refine g_iload (i := 5) (by decide +kernel) rfl ?_
    refine g_aload_n (i := 0) (by decide +kernel) rfl ?_
    refine g_getr f_Sg_29 (by decide +kernel) (by omega) rfl rfl ?_
    refine g_geti f_Sg_59 (by decide +kernel) (by omega) rfl rfl ?_
    refine g_icmp_ge (off := 116) (tgt := 157) (by decide +kernel) (by decide) ⟨by omega, by omega⟩ ⟨by omega, by omega⟩ (fun h41 => ?_) (fun h41 => ?_)
    · refine g_iconst (a := -1) (by decide +kernel) ?_
      refine g_retI (by decide +kernel) rfl (Or.inl rfl) ⟨by decide, by decide⟩ ?_
      exact ⟨by rw [zBP_no (fun j2 hj2 => hb j2 (by omega))], rfl⟩
    · have oi := hor i (by omega)
      obtain ⟨j, ej⟩ := Int.eq_ofNat_of_zero_le oi.1
      have hj6 : j < 6 := by omega
      have ej2 : (σ 43 i).toNat = j := by omega
      have r9 : (0 ≤ σ 9 j ∧ σ 9 j ≤ 3) ∧ (0 ≤ σ 10 j ∧ σ 10 j ≤ 1999) := hg.2.2.2 j hj6
      have mp := rp.2 (σ 3 k).toNat (by omega)
      have ma := (rA j hj6).2 (σ 3 k).toNat (by omega)
      refine g_aload_n (i := 0) (by decide +kernel) rfl ?_
      refine g_getr f_Sg_22 (by decide +kernel) (by omega) rfl rfl ?_
      refine g_iload (i := 5) (by decide +kernel) rfl ?_
      refine g_iald (j := i) (by decide +kernel) (by omega) rfl rfl (by omega) (by decide) ?_
      refine g_istore (i := 6) (L' := [(0, _), (1, _), (2, _), (3, _), (4, _), (5, _), (6, _)]) (by decide +kernel) rfl rfl ?_
      refine g_aload_n (i := 0) (by decide +kernel) rfl ?_
      refine g_getr f_Sg_29 (by decide +kernel) (by omega) rfl rfl ?_
      refine g_getr f_Sg_64 (by decide +kernel) (by omega) rfl rfl ?_
      refine g_iload (i := 6) (by decide +kernel) rfl ?_
      refine g_iald (j := j) (by decide +kernel) (by omega) rfl ej (by omega) (by decide) ?_
      refine g_istore (i := 7) (L' := [(0, _), (1, _), (2, _), (3, _), (4, _), (5, _), (6, _), (7, _)]) (by decide +kernel) rfl rfl ?_
      refine g_aload_n (i := 0) (by decide +kernel) rfl ?_
      refine g_getr f_Sg_29 (by decide +kernel) (by omega) rfl rfl ?_
      refine g_getr f_Sg_174 (by decide +kernel) (by omega) rfl rfl ?_
      refine g_iload (i := 6) (by decide +kernel) rfl ?_
      refine g_iald (j := j) (by decide +kernel) (by omega) rfl ej (by omega) (by decide) ?_
      refine g_iload (i := 4) (by decide +kernel) rfl ?_
      refine g_icmp_ne (off := 74) (tgt := 151) (by decide +kernel) (by decide) ⟨by omega, by omega⟩ ⟨by omega, by omega⟩ (fun h77 => ?_) (fun h77 => ?_)
      · have hz : zbp σ p k i = false := by unfold zbp; rw [ej2, decide_eq_false (fun z => h77 z.1)]; rfl
        refine g_iinc (i := 5) (b := 1) (L' := [(0, _), (1, _), (2, _), (3, _), (4, _), (5, _), (6, _), (7, _)]) (by decide +kernel) rfl rfl rfl ?_
        refine g_goto (off := -122) (tgt := 32) (by decide +kernel) (by decide) ?_
        refine g_less [0, 1, 2, 3, 4, 5] rfl (ih (i + 1) _ (by omega) (fun j2 hj2 => ?_) (by omega) (by omega))
        rcases Nat.lt_or_ge j2 i with z | z
        · exact hb j2 z
        · rw [show j2 = i by omega]; exact hz
      · refine g_iload (i := 7) (by decide +kernel) rfl ?_
        refine g_aload_n (i := 1) (by decide +kernel) rfl ?_
        refine g_geti f_Sg_43 (by decide +kernel) (by omega) hP.a0 rfl ?_
        refine g_icmp_gt (off := 65) (tgt := 151) (by decide +kernel) (by decide) ⟨by omega, by omega⟩ ⟨by omega, by omega⟩ (fun h86 => ?_) (fun h86 => ?_)
        · have hz : zbp σ p k i = false := by unfold zbp; rw [ej2, decide_eq_false (fun z => by have := z.2.1; omega)]; rfl
          refine g_iinc (i := 5) (b := 1) (L' := [(0, _), (1, _), (2, _), (3, _), (4, _), (5, _), (6, _), (7, _)]) (by decide +kernel) rfl rfl rfl ?_
          refine g_goto (off := -122) (tgt := 32) (by decide +kernel) (by decide) ?_
          refine g_less [0, 1, 2, 3, 4, 5] rfl (ih (i + 1) _ (by omega) (fun j2 hj2 => ?_) (by omega) (by omega))
          rcases Nat.lt_or_ge j2 i with z | z
          · exact hb j2 z
          · rw [show j2 = i by omega]; exact hz
        · refine g_iload (i := 7) (by decide +kernel) rfl ?_
          refine g_aload_n (i := 1) (by decide +kernel) rfl ?_
          refine g_geti f_Sg_43 (by decide +kernel) (by omega) hP.a0 rfl ?_
          refine g_icmp_ne (off := 7) (tgt := 102) (by decide +kernel) (by decide) ⟨by omega, by omega⟩ ⟨by omega, by omega⟩ (fun h95 => ?_) (fun h95 => ?_)
          · have eT : zTh σ p j = 45 + 8 * j := if_neg h95
            refine g_aload_n (i := 0) (by decide +kernel) rfl ?_
            refine g_getr f_Sg_18 (by decide +kernel) (by omega) rfl rfl ?_
            refine g_iload (i := 6) (by decide +kernel) rfl ?_
            refine g_aald (CN := "") (j := j) (by decide +kernel) (by omega) rfl (Or.inr rfl) ej (by omega) (by decide) rfl ?_
            refine g_astore (i := 8) (L' := [(0, _), (1, _), (2, _), (3, _), (4, _), (5, _), (6, _), (7, _), (8, _)]) (by decide +kernel) rfl rfl ?_
            refine g_aload (i := 8) (by decide +kernel) rfl ?_
            refine g_getr f_Sg_141 (by decide +kernel) (by omega) (mo_at j hj6).a0 rfl ?_
            refine g_iload_n (i := 3) (by decide +kernel) rfl ?_
            refine g_iald (j := (σ 3 k).toNat) (by decide +kernel) (by omega) (mo_at j hj6).a1 (by omega) (by omega) (by decide) ?_
            refine g_iconst (a := 2) (by decide +kernel) ?_
            refine g_icmp_ne (off := 32) (tgt := 151) (by decide +kernel) (by decide) ⟨by omega, by omega⟩ ⟨by omega, by omega⟩ (fun h119 => ?_) (fun h119 => ?_)
            · have hz : zbp σ p k i = false := by unfold zbp; rw [ej2, eT, decide_eq_false (fun z => h119 z.2.2)]; rfl
              refine g_iinc (i := 5) (b := 1) (L' := [(0, _), (1, _), (2, _), (3, _), (4, _), (5, _), (6, _), (7, _), (8, _)]) (by decide +kernel) rfl rfl rfl ?_
              refine g_goto (off := -122) (tgt := 32) (by decide +kernel) (by decide) ?_
              refine g_less [0, 1, 2, 3, 4, 5] rfl (ih (i + 1) _ (by omega) (fun j2 hj2 => ?_) (by omega) (by omega))
              rcases Nat.lt_or_ge j2 i with z | z
              · exact hb j2 z
              · rw [show j2 = i by omega]; exact hz
            · refine g_aload_n (i := 0) (by decide +kernel) rfl ?_
              refine g_aload_n (i := 1) (by decide +kernel) rfl ?_
              refine g_aload (i := 8) (by decide +kernel) rfl ?_
              refine g_iload_n (i := 3) (by decide +kernel) rfl ?_
              refine g_cVI (st := []) (c_Sg_samePasses (p := p) (q := 45 + 8 * j) (x := σ 3 k) hn hP (mo_at j hj6) hg rp (rA j hj6) ⟨by omega, by omega⟩) k_Sg_samePasses l_Sg_177 (by decide +kernel) (by omega) rfl rfl rfl rfl (Nat.le_of_ble_eq_true rfl) (by decide) ⟨by decide, by decide⟩ ?_
              rintro a σ1 ⟨ea, hσ⟩
              obtain rfl := hσ.symm
              subst ea
              refine g_if_eq (off := 21) (tgt := 151) (by decide +kernel) (by decide) zbr (fun h130 => ?_) (fun h130 => ?_)
              · have h130 := zb0.mp h130
                have hz : zbp σ p k i = false := by
                  unfold zbp; rw [ej2, eT]
                  cases hx : zsame (σ 3) (σ (p + 3)) (σ (_ + 3)) 12 (σ 3 k) with
                  | false => simp
                  | true => exact absurd hx h130
                refine g_iinc (i := 5) (b := 1) (L' := [(0, _), (1, _), (2, _), (3, _), (4, _), (5, _), (6, _), (7, _), (8, _)]) (by decide +kernel) rfl rfl rfl ?_
                refine g_goto (off := -122) (tgt := 32) (by decide +kernel) (by decide) ?_
                refine g_less [0, 1, 2, 3, 4, 5] rfl (ih (i + 1) _ (by omega) (fun j2 hj2 => ?_) (by omega) (by omega))
                rcases Nat.lt_or_ge j2 i with z | z
                · exact hb j2 z
                · rw [show j2 = i by omega]; exact hz
              · have h130 := zb1.mp h130
                have hz : zbp σ p k i = true := by unfold zbp; rw [ej2, eT, h130, decide_eq_true ⟨h77, h86, h119⟩]; rfl
                refine g_aload (i := 8) (by decide +kernel) rfl ?_
                refine g_getr f_Sg_127 (by decide +kernel) (by omega) (mo_at j hj6).a0 rfl ?_
                refine g_iload_n (i := 3) (by decide +kernel) rfl ?_
                refine g_iald (j := (σ 3 k).toNat) (by decide +kernel) (by omega) (mo_at j hj6).a2 (by omega) (by omega) (by decide) ?_
                refine g_aload_n (i := 0) (by decide +kernel) rfl ?_
                refine g_getr f_Sg_33 (by decide +kernel) (by omega) rfl rfl ?_
                refine g_getr f_Sg_137 (by decide +kernel) (by omega) rfl rfl ?_
                refine g_iload_n (i := 2) (by decide +kernel) rfl ?_
                refine g_iald (j := k) (by decide +kernel) (by omega) rfl rfl (by omega) (by decide) ?_
                refine g_iadd (by decide +kernel) ?_
                refine g_retI (by decide +kernel) rfl (Or.inl rfl) ⟨by decide, by decide⟩ ?_
                exact ⟨by rw [zBP_at hb hz (by omega), ej2, eT], rfl⟩
          · have eT : zTh σ p j = p := if_pos h95
            refine g_aload_n (i := 1) (by decide +kernel) rfl ?_
            refine g_goto (off := 10) (tgt := 109) (by decide +kernel) (by decide) ?_
            refine g_astore (i := 8) (L' := [(0, _), (1, _), (2, _), (3, _), (4, _), (5, _), (6, _), (7, _), (8, _)]) (by decide +kernel) rfl rfl ?_
            refine g_aload (i := 8) (by decide +kernel) rfl ?_
            refine g_getr f_Sg_141 (by decide +kernel) (by omega) hP.a0 rfl ?_
            refine g_iload_n (i := 3) (by decide +kernel) rfl ?_
            refine g_iald (j := (σ 3 k).toNat) (by decide +kernel) (by omega) hP.a1 (by omega) (by omega) (by decide) ?_
            refine g_iconst (a := 2) (by decide +kernel) ?_
            refine g_icmp_ne (off := 32) (tgt := 151) (by decide +kernel) (by decide) ⟨by omega, by omega⟩ ⟨by omega, by omega⟩ (fun h119 => ?_) (fun h119 => ?_)
            · have hz : zbp σ p k i = false := by unfold zbp; rw [ej2, eT, decide_eq_false (fun z => h119 z.2.2)]; rfl
              refine g_iinc (i := 5) (b := 1) (L' := [(0, _), (1, _), (2, _), (3, _), (4, _), (5, _), (6, _), (7, _), (8, _)]) (by decide +kernel) rfl rfl rfl ?_
              refine g_goto (off := -122) (tgt := 32) (by decide +kernel) (by decide) ?_
              refine g_less [0, 1, 2, 3, 4, 5] rfl (ih (i + 1) _ (by omega) (fun j2 hj2 => ?_) (by omega) (by omega))
              rcases Nat.lt_or_ge j2 i with z | z
              · exact hb j2 z
              · rw [show j2 = i by omega]; exact hz
            · refine g_aload_n (i := 0) (by decide +kernel) rfl ?_
              refine g_aload_n (i := 1) (by decide +kernel) rfl ?_
              refine g_aload (i := 8) (by decide +kernel) rfl ?_
              refine g_iload_n (i := 3) (by decide +kernel) rfl ?_
              refine g_cVI (st := []) (c_Sg_samePasses (p := p) (q := p) (x := σ 3 k) hn hP hP hg rp rp ⟨by omega, by omega⟩) k_Sg_samePasses l_Sg_177 (by decide +kernel) (by omega) rfl rfl rfl rfl (Nat.le_of_ble_eq_true rfl) (by decide) ⟨by decide, by decide⟩ ?_
              rintro a σ1 ⟨ea, hσ⟩
              obtain rfl := hσ.symm
              subst ea
              refine g_if_eq (off := 21) (tgt := 151) (by decide +kernel) (by decide) zbr (fun h130 => ?_) (fun h130 => ?_)
              · have h130 := zb0.mp h130
                have hz : zbp σ p k i = false := by
                  unfold zbp; rw [ej2, eT]
                  cases hx : zsame (σ 3) (σ (p + 3)) (σ (_ + 3)) 12 (σ 3 k) with
                  | false => simp
                  | true => exact absurd hx h130
                refine g_iinc (i := 5) (b := 1) (L' := [(0, _), (1, _), (2, _), (3, _), (4, _), (5, _), (6, _), (7, _), (8, _)]) (by decide +kernel) rfl rfl rfl ?_
                refine g_goto (off := -122) (tgt := 32) (by decide +kernel) (by decide) ?_
                refine g_less [0, 1, 2, 3, 4, 5] rfl (ih (i + 1) _ (by omega) (fun j2 hj2 => ?_) (by omega) (by omega))
                rcases Nat.lt_or_ge j2 i with z | z
                · exact hb j2 z
                · rw [show j2 = i by omega]; exact hz
              · have h130 := zb1.mp h130
                have hz : zbp σ p k i = true := by unfold zbp; rw [ej2, eT, h130, decide_eq_true ⟨h77, h86, h119⟩]; rfl
                refine g_aload (i := 8) (by decide +kernel) rfl ?_
                refine g_getr f_Sg_127 (by decide +kernel) (by omega) hP.a0 rfl ?_
                refine g_iload_n (i := 3) (by decide +kernel) rfl ?_
                refine g_iald (j := (σ 3 k).toNat) (by decide +kernel) (by omega) hP.a2 (by omega) (by omega) (by decide) ?_
                refine g_aload_n (i := 0) (by decide +kernel) rfl ?_
                refine g_getr f_Sg_33 (by decide +kernel) (by omega) rfl rfl ?_
                refine g_getr f_Sg_137 (by decide +kernel) (by omega) rfl rfl ?_
                refine g_iload_n (i := 2) (by decide +kernel) rfl ?_
                refine g_iald (j := k) (by decide +kernel) (by omega) rfl rfl (by omega) (by decide) ?_
                refine g_iadd (by decide +kernel) ?_
                refine g_retI (by decide +kernel) rfl (Or.inl rfl) ⟨by decide, by decide⟩ ?_
                exact ⟨by rw [zBP_at hb hz (by omega), ej2, eT], rfl⟩
theorem c_Sg_begunByPress {G : zG} {n : Nat} {σ : zSt} {p k : Nat} (hn : 189 ≤ n) (hP : zMo SH p) (hp2 : 34 ≤ p) (hk : k < 12) (hg : zGood σ 1) (rp : zMr σ p) (rA : ∀ j, j < 6 → zMr σ (45 + 8 * j)) (hor : ∀ i, i < (σ 1 8).toNat → 0 ≤ σ 43 i ∧ σ 43 i < 6) (h3 : 0 ≤ σ 3 k ∧ σ 3 k ≤ 11) (h25 : 0 ≤ σ 25 k ∧ σ 25 k ≤ 11) : Gm G y_Sg_begunByPress m_Sg_begunByPress 1 0 0 [vr G 33, vr G p, vi k] n SH σ (zI n SH (fun a σ' => a = zBP σ p k ∧ σ' = σ)) := by
  refine g_enter (L := [(0, _), (1, _), (2, _)]) (by decide) rfl rfl rfl (Nat.le_of_ble_eq_true rfl) (fun X => ?_)
  have hp := hP.1
  have hc : 0 ≤ σ 1 8 ∧ σ 1 8 ≤ 6 := hg.1.2.2
  refine g_aload_n (i := 0) (by decide +kernel) rfl ?_
  refine g_getr f_Sg_29 (by decide +kernel) (by omega) rfl rfl ?_
  refine g_getr f_Sg_124 (by decide +kernel) (by omega) rfl rfl ?_
  refine g_iload_n (i := 2) (by decide +kernel) rfl ?_
  refine g_iald (j := k) (by decide +kernel) (by omega) rfl rfl (by omega) (by decide) ?_
  refine g_istore_n (i := 3) (L' := [(0, _), (1, _), (2, _), (3, _)]) (by decide +kernel) rfl rfl ?_
  refine g_aload_n (i := 0) (by decide +kernel) rfl ?_
  refine g_getr f_Sg_29 (by decide +kernel) (by omega) rfl rfl ?_
  refine g_getr f_Sg_168 (by decide +kernel) (by omega) rfl rfl ?_
  refine g_aload_n (i := 0) (by decide +kernel) rfl ?_
  refine g_getr f_Sg_33 (by decide +kernel) (by omega) rfl rfl ?_
  refine g_getr f_Sg_171 (by decide +kernel) (by omega) rfl rfl ?_
  refine g_iload_n (i := 2) (by decide +kernel) rfl ?_
  refine g_iald (j := k) (by decide +kernel) (by omega) rfl rfl (by omega) (by decide) ?_
  refine g_iald (j := (σ 25 k).toNat) (by decide +kernel) (by omega) rfl (by omega) (by omega) (by decide) ?_
  refine g_istore (i := 4) (L' := [(0, _), (1, _), (2, _), (3, _), (4, _)]) (by decide +kernel) rfl rfl ?_
  refine g_iconst (a := 0) (by decide +kernel) ?_
  refine g_istore (i := 5) (L' := [(0, _), (1, _), (2, _), (3, _), (4, _), (5, _)]) (by decide +kernel) rfl rfl ?_
  exact w_Sg_begunByPress hn hP hp2 hk hg rp rA hor h3 h25 7 0 _ rfl (fun j hj => by omega) (by omega) (by omega)
/-- the time around clip k in moment p; where it begins -/
def zTa (σ : zSt) (p k : Nat) : Int := if σ 3 k = -1 then σ p 0 else σ (p + 2) (σ 3 k).toNat
def zBk (σ : zSt) (p k : Nat) : Int := if σ 26 k = 0 then σ 24 k else zBP σ p k
def zFC (σ : zSt) (p k : Nat) : zSt := if σ 3 k ≠ -1 ∧ ¬ (σ (p + 1) (σ 3 k).toNat = 2 ∨ σ (p + 1) (σ 3 k).toNat = 3) then σ else
  if zBk σ p k = -1 ∨ zTa σ p k < zBk σ p k then zs (zs σ (p + 4) k (zBk σ p k)) (p + 1) k 1
  else if zTa σ p k - zBk σ p k < σ 23 k then zFR (zs (zs σ (p + 4) k (zBk σ p k)) (p + 1) k 2) p k (zTa σ p k - zBk σ p k)
  else if σ 8 (9 * k + 5) = 1 ∧ 0 < σ 23 k then zFR (zs (zs σ (p + 4) k (zBk σ p k)) (p + 1) k 3) p k (σ 23 k - 1)
  else zs (zs σ (p + 4) k (zBk σ p k)) (p + 1) k 4
theorem c_Sg_fillClip {G : zG} {n : Nat} {σ : zSt} {p k : Nat} (hn : 189 ≤ n) (hP : zMo SH p) (hp2 : 34 ≤ p) (hk : k < 12) (hg : zGood σ 1) (rp : zMr σ p) (rA : ∀ j, j < 6 → zMr σ (45 + 8 * j)) (hor : ∀ i, i < (σ 1 8).toNat → 0 ≤ σ 43 i ∧ σ 43 i < 6) (har : -1 ≤ σ 3 k ∧ σ 3 k ≤ 11) (hop : σ 26 k = 0 ∨ σ 26 k = 1 ∧ (0 ≤ σ 3 k ∧ 0 ≤ σ 25 k ∧ σ 25 k ≤ 11)) (hbe : 0 ≤ σ 24 k ∧ σ 24 k ≤ 1000000000) (hac : 0 ≤ σ 23 k ∧ σ 23 k ≤ 1000000000) (hsi : 0 < σ 23 k → 1 ≤ σ 22 k ∧ σ 22 k ≤ 100000000) (hrt : 1 ≤ σ 8 (9 * k + 1) ∧ σ 8 (9 * k + 1) ≤ 4) (htm : 0 ≤ σ p 0 ∧ σ p 0 ≤ 1999) : Gm G y_Sg_fillClip m_Sg_fillClip 2 0 0 [vr G 33, vr G p, vi k] n SH σ (zV n SH (fun σ' => σ' = zFC σ p k)) := by
  refine g_enter (L := [(0, _), (1, _), (2, _)]) (by decide) rfl rfl rfl (Nat.le_of_ble_eq_true rfl) (fun X => ?_)
  have hp := hP.1
  have m5 : 0 ≤ σ 8 (9 * k + 5) ∧ σ 8 (9 * k + 5) ≤ 999 := hg.2.2.1 (9 * k + 5) (by omega)
  have m4 : 0 ≤ σ 8 (9 * k + 4) ∧ σ 8 (9 * k + 4) ≤ 999 := hg.2.2.1 (9 * k + 4) (by omega)
  have tr : -1 ≤ zTa σ p k ∧ zTa σ p k ≤ 1000000000 := by
    unfold zTa
    split
    · omega
    · exact (rp.2 _ (by omega)).2.1
  have br : -1 ≤ zBk σ p k ∧ zBk σ p k ≤ 2000000000 := by
    unfold zBk
    split
    · omega
    · unfold zBP
      split
      · omega
      · next e1 e2 =>
        have z := zfst_range (p := zbp σ p k) (n := (σ 1 8).toNat)
        have o := hor (zfst (zbp σ p k) (σ 1 8).toNat).toNat (by omega)
        unfold zTh
        split
        · have := (rp.2 (σ 3 k).toNat (by omega)).2.1; omega
        · have := ((rA (σ 43 (zfst (zbp σ p k) (σ 1 8).toNat).toNat).toNat (by omega)).2 (σ 3 k).toNat (by omega)).2.1; omega
  have J74 : ¬ (σ 3 k ≠ -1 ∧ ¬ (σ (p + 1) (σ 3 k).toNat = 2 ∨ σ (p + 1) (σ 3 k).toNat = 3)) → Go G X m_Sg_fillClip (2, 0, 0, 0, 0) n SH σ 74 [(0, vr G 33), (1, vr G p), (2, vi k), (3, vi (σ 3 k)), (4, vi (zTa σ p k))] [vi (zBk σ p k)] (zV n SH (fun σ' => σ' = zFC σ p k)) := by
    intro hrun
    refine g_istore (i := 5) (L' := [(0, _), (1, _), (2, _), (3, _), (4, _), (5, _)]) (by decide +kernel) rfl rfl ?_
    refine g_aload_n (i := 1) (by decide +kernel) rfl ?_
    refine g_getr f_Sg_140 (by decide +kernel) (by omega) hP.a0 rfl ?_
    refine g_iload_n (i := 2) (by decide +kernel) rfl ?_
    refine g_iload (i := 5) (by decide +kernel) rfl ?_
    refine g_iast (j := k) (by decide +kernel) (by omega) hP.a4 rfl (by omega) (by decide) ?_
    refine g_iload (i := 5) (by decide +kernel) rfl ?_
    refine g_iconst (a := -1) (by decide +kernel) ?_
    refine g_icmp_eq (off := 10) (tgt := 97) (by decide +kernel) (by decide) ⟨by omega, by omega⟩ ⟨by omega, by omega⟩ (fun h87 => ?_) (fun h87 => ?_)
    · refine g_aload_n (i := 1) (by decide +kernel) rfl ?_
      refine g_getr f_Sg_141 (by decide +kernel) (by omega) hP.a0 rfl ?_
      refine g_iload_n (i := 2) (by decide +kernel) rfl ?_
      refine g_iconst (a := 1) (by decide +kernel) ?_
      refine g_iast (j := k) (by decide +kernel) (by omega) hP.a1 rfl (by omega) (by decide) ?_
      refine g_goto (off := 100) (tgt := 204) (by decide +kernel) (by decide) ?_
      refine g_retV (by decide +kernel) rfl ⟨by decide, by decide⟩ ?_
      unfold zFC
      rw [if_neg hrun]
      first
        | rw [if_pos (by omega)]
        | (rw [if_neg (by omega), if_pos (by omega)])
        | (rw [if_neg (by omega), if_neg (by omega), if_pos (by omega)])
        | (rw [if_neg (by omega), if_neg (by omega), if_neg (by omega)])
    · refine g_iload (i := 5) (by decide +kernel) rfl ?_
      refine g_iload (i := 4) (by decide +kernel) rfl ?_
      refine g_icmp_le (off := 13) (tgt := 107) (by decide +kernel) (by decide) ⟨by omega, by omega⟩ ⟨by omega, by omega⟩ (fun h94 => ?_) (fun h94 => ?_)
      · refine g_iload (i := 4) (by decide +kernel) rfl ?_
        refine g_iload (i := 5) (by decide +kernel) rfl ?_
        refine g_isub (by decide +kernel) ?_
        refine g_aload_n (i := 0) (by decide +kernel) rfl ?_
        refine g_getr f_Sg_33 (by decide +kernel) (by omega) rfl rfl ?_
        refine g_getr f_Sg_144 (by decide +kernel) (by omega) rfl rfl ?_
        refine g_iload_n (i := 2) (by decide +kernel) rfl ?_
        refine g_iald (j := k) (by decide +kernel) (by omega) rfl rfl (by omega) (by decide) ?_
        refine g_icmp_ge (off := 24) (tgt := 145) (by decide +kernel) (by decide) ⟨by omega, by omega⟩ ⟨by rw [zs_other (show 23 ≠ p + 4 by omega)]; omega, by rw [zs_other (show 23 ≠ p + 4 by omega)]; omega⟩ (fun h121 => ?_) (fun h121 => ?_)
        · rw [zs_other (show 23 ≠ p + 4 by omega)] at h121
          refine g_aload_n (i := 0) (by decide +kernel) rfl ?_
          refine g_getr f_Sg_29 (by decide +kernel) (by omega) rfl rfl ?_
          refine g_iload_n (i := 2) (by decide +kernel) rfl ?_
          refine g_iconst (a := 5) (by decide +kernel) ?_
          refine g_cVI (st := []) (c_Sh_markOf (b := 1) (k := k) (w := 5) hn sh_1 hk (by decide)) k_Sh_markOf l_Sg_99 (by decide +kernel) (by omega) rfl rfl rfl rfl (Nat.le_of_ble_eq_true rfl) (by decide) ⟨by decide, by decide⟩ ?_
          rintro a σ1 ⟨ea, hσ⟩
          obtain rfl := hσ.symm
          have ea : a = zs σ (p + 4) k (zBk σ p k) 8 (9 * k + 5) := ea
          subst ea
          refine g_iconst (a := 1) (by decide +kernel) ?_
          refine g_icmp_ne (off := 42) (tgt := 197) (by decide +kernel) (by decide) ⟨by rw [zs_other (show 8 ≠ p + 4 by omega)]; omega, by rw [zs_other (show 8 ≠ p + 4 by omega)]; omega⟩ ⟨by omega, by omega⟩ (fun h155 => ?_) (fun h155 => ?_)
          · rw [zs_other (show 8 ≠ p + 4 by omega)] at h155
            refine g_aload_n (i := 1) (by decide +kernel) rfl ?_
            refine g_getr f_Sg_141 (by decide +kernel) (by omega) hP.a0 rfl ?_
            refine g_iload_n (i := 2) (by decide +kernel) rfl ?_
            refine g_iconst (a := 4) (by decide +kernel) ?_
            refine g_iast (j := k) (by decide +kernel) (by omega) hP.a1 rfl (by omega) (by decide) ?_
            refine g_retV (by decide +kernel) rfl ⟨by decide, by decide⟩ ?_
            unfold zFC
            rw [if_neg hrun]
            first
              | rw [if_pos (by omega)]
              | (rw [if_neg (by omega), if_pos (by omega)])
              | (rw [if_neg (by omega), if_neg (by omega), if_pos (by omega)])
              | (rw [if_neg (by omega), if_neg (by omega), if_neg (by omega)])
          · rw [zs_other (show 8 ≠ p + 4 by omega)] at h155
            refine g_aload_n (i := 0) (by decide +kernel) rfl ?_
            refine g_getr f_Sg_33 (by decide +kernel) (by omega) rfl rfl ?_
            refine g_getr f_Sg_144 (by decide +kernel) (by omega) rfl rfl ?_
            refine g_iload_n (i := 2) (by decide +kernel) rfl ?_
            refine g_iald (j := k) (by decide +kernel) (by omega) rfl rfl (by omega) (by decide) ?_
            refine g_if_le (off := 30) (tgt := 197) (by decide +kernel) (by decide) ⟨by rw [zs_other (show 23 ≠ p + 4 by omega)]; omega, by rw [zs_other (show 23 ≠ p + 4 by omega)]; omega⟩ (fun h167 => ?_) (fun h167 => ?_)
            · rw [zs_other (show 23 ≠ p + 4 by omega)] at h167
              refine g_aload_n (i := 1) (by decide +kernel) rfl ?_
              refine g_getr f_Sg_141 (by decide +kernel) (by omega) hP.a0 rfl ?_
              refine g_iload_n (i := 2) (by decide +kernel) rfl ?_
              refine g_iconst (a := 4) (by decide +kernel) ?_
              refine g_iast (j := k) (by decide +kernel) (by omega) hP.a1 rfl (by omega) (by decide) ?_
              refine g_retV (by decide +kernel) rfl ⟨by decide, by decide⟩ ?_
              unfold zFC
              rw [if_neg hrun]
              first
                | rw [if_pos (by omega)]
                | (rw [if_neg (by omega), if_pos (by omega)])
                | (rw [if_neg (by omega), if_neg (by omega), if_pos (by omega)])
                | (rw [if_neg (by omega), if_neg (by omega), if_neg (by omega)])
            · rw [zs_other (show 23 ≠ p + 4 by omega)] at h167
              refine g_aload_n (i := 1) (by decide +kernel) rfl ?_
              refine g_getr f_Sg_141 (by decide +kernel) (by omega) hP.a0 rfl ?_
              refine g_iload_n (i := 2) (by decide +kernel) rfl ?_
              refine g_iconst (a := 3) (by decide +kernel) ?_
              refine g_iast (j := k) (by decide +kernel) (by omega) hP.a1 rfl (by omega) (by decide) ?_
              refine g_aload_n (i := 0) (by decide +kernel) rfl ?_
              refine g_aload_n (i := 1) (by decide +kernel) rfl ?_
              refine g_iload_n (i := 2) (by decide +kernel) rfl ?_
              refine g_aload_n (i := 0) (by decide +kernel) rfl ?_
              refine g_getr f_Sg_33 (by decide +kernel) (by omega) rfl rfl ?_
              refine g_getr f_Sg_144 (by decide +kernel) (by omega) rfl rfl ?_
              refine g_iload_n (i := 2) (by decide +kernel) rfl ?_
              refine g_iald (j := k) (by decide +kernel) (by omega) rfl rfl (by omega) (by decide) ?_
              refine g_iconst (a := 1) (by decide +kernel) ?_
              refine g_isub (by decide +kernel) ?_
              refine g_eq (st' := [vi (σ 23 k - 1), vi (k : Int), vr G p, vr G 33]) ?_ rfl rfl (by rw [zs_other (show 23 ≠ p + 1 by omega), zs_other (show 23 ≠ p + 4 by omega)])
              refine g_cVV (st := []) (c_Sg_fillRunning (p := p) (k := k) (s := σ 23 k - 1) hn hP (by omega) hk ⟨by omega, by omega⟩ (by rw [zs_other (show 22 ≠ p + 1 by omega), zs_other (show 22 ≠ p + 4 by omega)]; exact hsi (by omega)) (by rw [zs_other (show 8 ≠ p + 1 by omega), zs_other (show 8 ≠ p + 4 by omega)]; exact hrt) (by rw [zs_other (show 8 ≠ p + 1 by omega), zs_other (show 8 ≠ p + 4 by omega)]; exact m4)) k_Sg_fillRunning l_Sg_147 (by decide +kernel) (by omega) rfl rfl rfl rfl (Nat.le_of_ble_eq_true rfl) (by decide) ⟨by decide, by decide⟩ ?_
              rintro σ1 hσ
              obtain rfl := hσ.symm
              refine g_goto (off := 10) (tgt := 204) (by decide +kernel) (by decide) ?_
              refine g_retV (by decide +kernel) rfl ⟨by decide, by decide⟩ ?_
              unfold zFC
              rw [if_neg hrun]
              first
                | rw [if_pos (by omega)]
                | (rw [if_neg (by omega), if_pos (by omega)])
                | (rw [if_neg (by omega), if_neg (by omega), if_pos (by omega)])
                | (rw [if_neg (by omega), if_neg (by omega), if_neg (by omega)])
        · rw [zs_other (show 23 ≠ p + 4 by omega)] at h121
          refine g_aload_n (i := 1) (by decide +kernel) rfl ?_
          refine g_getr f_Sg_141 (by decide +kernel) (by omega) hP.a0 rfl ?_
          refine g_iload_n (i := 2) (by decide +kernel) rfl ?_
          refine g_iconst (a := 2) (by decide +kernel) ?_
          refine g_iast (j := k) (by decide +kernel) (by omega) hP.a1 rfl (by omega) (by decide) ?_
          refine g_aload_n (i := 0) (by decide +kernel) rfl ?_
          refine g_aload_n (i := 1) (by decide +kernel) rfl ?_
          refine g_iload_n (i := 2) (by decide +kernel) rfl ?_
          refine g_iload (i := 4) (by decide +kernel) rfl ?_
          refine g_iload (i := 5) (by decide +kernel) rfl ?_
          refine g_isub (by decide +kernel) ?_
          refine g_cVV (st := []) (c_Sg_fillRunning (p := p) (k := k) (s := zTa σ p k - zBk σ p k) hn hP (by omega) hk ⟨by omega, by omega⟩ (by rw [zs_other (show 22 ≠ p + 1 by omega), zs_other (show 22 ≠ p + 4 by omega)]; exact hsi (by omega)) (by rw [zs_other (show 8 ≠ p + 1 by omega), zs_other (show 8 ≠ p + 4 by omega)]; exact hrt) (by rw [zs_other (show 8 ≠ p + 1 by omega), zs_other (show 8 ≠ p + 4 by omega)]; exact m4)) k_Sg_fillRunning l_Sg_147 (by decide +kernel) (by omega) rfl rfl rfl rfl (Nat.le_of_ble_eq_true rfl) (by decide) ⟨by decide, by decide⟩ ?_
          rintro σ1 hσ
          obtain rfl := hσ.symm
          refine g_goto (off := 62) (tgt := 204) (by decide +kernel) (by decide) ?_
          refine g_retV (by decide +kernel) rfl ⟨by decide, by decide⟩ ?_
          unfold zFC
          rw [if_neg hrun]
          first
            | rw [if_pos (by omega)]
            | (rw [if_neg (by omega), if_pos (by omega)])
            | (rw [if_neg (by omega), if_neg (by omega), if_pos (by omega)])
            | (rw [if_neg (by omega), if_neg (by omega), if_neg (by omega)])
      · refine g_aload_n (i := 1) (by decide +kernel) rfl ?_
        refine g_getr f_Sg_141 (by decide +kernel) (by omega) hP.a0 rfl ?_
        refine g_iload_n (i := 2) (by decide +kernel) rfl ?_
        refine g_iconst (a := 1) (by decide +kernel) ?_
        refine g_iast (j := k) (by decide +kernel) (by omega) hP.a1 rfl (by omega) (by decide) ?_
        refine g_goto (off := 100) (tgt := 204) (by decide +kernel) (by decide) ?_
        refine g_retV (by decide +kernel) rfl ⟨by decide, by decide⟩ ?_
        unfold zFC
        rw [if_neg hrun]
        first
          | rw [if_pos (by omega)]
          | (rw [if_neg (by omega), if_pos (by omega)])
          | (rw [if_neg (by omega), if_neg (by omega), if_pos (by omega)])
          | (rw [if_neg (by omega), if_neg (by omega), if_neg (by omega)])
  have J42 : ¬ (σ 3 k ≠ -1 ∧ ¬ (σ (p + 1) (σ 3 k).toNat = 2 ∨ σ (p + 1) (σ 3 k).toNat = 3)) → Go G X m_Sg_fillClip (2, 0, 0, 0, 0) n SH σ 42 [(0, vr G 33), (1, vr G p), (2, vi k), (3, vi (σ 3 k))] [vi (zTa σ p k)] (zV n SH (fun σ' => σ' = zFC σ p k)) := by
    intro hrun
    refine g_istore (i := 4) (L' := [(0, _), (1, _), (2, _), (3, _), (4, _)]) (by decide +kernel) rfl rfl ?_
    refine g_aload_n (i := 0) (by decide +kernel) rfl ?_
    refine g_getr f_Sg_33 (by decide +kernel) (by omega) rfl rfl ?_
    refine g_getr f_Sg_130 (by decide +kernel) (by omega) rfl rfl ?_
    refine g_iload_n (i := 2) (by decide +kernel) rfl ?_
    refine g_zald (j := k) (by decide +kernel) (by omega) rfl rfl (by omega) (by decide) ?_
    refine g_if_eq (off := 12) (tgt := 65) (by decide +kernel) (by decide) ⟨by omega, by omega⟩ (fun h53 => ?_) (fun h53 => ?_)
    · refine g_aload_n (i := 0) (by decide +kernel) rfl ?_
      refine g_getr f_Sg_33 (by decide +kernel) (by omega) rfl rfl ?_
      refine g_getr f_Sg_137 (by decide +kernel) (by omega) rfl rfl ?_
      refine g_iload_n (i := 2) (by decide +kernel) rfl ?_
      refine g_iald (j := k) (by decide +kernel) (by omega) rfl rfl (by omega) (by decide) ?_
      exact g_eq (J74 hrun) rfl rfl (by unfold zBk; first | rw [if_pos h53] | rw [if_neg h53])
    · refine g_aload_n (i := 0) (by decide +kernel) rfl ?_
      refine g_aload_n (i := 1) (by decide +kernel) rfl ?_
      refine g_iload_n (i := 2) (by decide +kernel) rfl ?_
      refine g_cVI (st := []) (c_Sg_begunByPress hn hP hp2 hk hg rp rA hor (by omega) (by omega)) k_Sg_begunByPress l_Sg_134 (by decide +kernel) (by omega) rfl rfl rfl rfl (Nat.le_of_ble_eq_true rfl) (by decide) ⟨by decide, by decide⟩ ?_
      rintro a σ1 ⟨ea, hσ⟩
      obtain rfl := hσ.symm
      subst ea
      refine g_goto (off := 12) (tgt := 74) (by decide +kernel) (by decide) ?_
      exact g_eq (J74 hrun) rfl rfl (by unfold zBk; first | rw [if_pos h53] | rw [if_neg h53])
  refine g_aload_n (i := 0) (by decide +kernel) rfl ?_
  refine g_getr f_Sg_29 (by decide +kernel) (by omega) rfl rfl ?_
  refine g_getr f_Sg_124 (by decide +kernel) (by omega) rfl rfl ?_
  refine g_iload_n (i := 2) (by decide +kernel) rfl ?_
  refine g_iald (j := k) (by decide +kernel) (by omega) rfl rfl (by omega) (by decide) ?_
  refine g_istore_n (i := 3) (L' := [(0, _), (1, _), (2, _), (3, _)]) (by decide +kernel) rfl rfl ?_
  refine g_iload_n (i := 3) (by decide +kernel) rfl ?_
  refine g_iconst (a := -1) (by decide +kernel) ?_
  refine g_icmp_eq (off := 12) (tgt := 24) (by decide +kernel) (by decide) ⟨by omega, by omega⟩ ⟨by omega, by omega⟩ (fun h12 => ?_) (fun h12 => ?_)
  · first
      | (have hz : σ 3 k = -1 := h12
         refine g_iload_n (i := 3) (by decide +kernel) rfl ?_
         refine g_iconst (a := -1) (by decide +kernel) ?_
         refine g_icmp_ne (off := 10) (tgt := 36) (by decide +kernel) (by decide) ⟨by omega, by omega⟩ ⟨by omega, by omega⟩ (fun h => absurd hz h) (fun _ => ?_)
         refine g_aload_n (i := 1) (by decide +kernel) rfl ?_
         refine g_geti f_Sg_43 (by decide +kernel) (by omega) hP.a0 rfl ?_
         refine g_goto (off := 9) (tgt := 42) (by decide +kernel) (by decide) ?_
         exact g_eq (J42 (fun z => z.1 hz)) rfl rfl (by unfold zTa; rw [if_pos hz]))
      | (have hz : σ 3 k ≠ -1 := h12
         refine g_iload_n (i := 3) (by decide +kernel) rfl ?_
         refine g_iconst (a := -1) (by decide +kernel) ?_
         refine g_icmp_ne (off := 10) (tgt := 36) (by decide +kernel) (by decide) ⟨by omega, by omega⟩ ⟨by omega, by omega⟩ (fun _ => ?_) (fun h => absurd (by omega) hz)
         refine g_aload_n (i := 1) (by decide +kernel) rfl ?_
         refine g_getr f_Sg_127 (by decide +kernel) (by omega) hP.a0 rfl ?_
         refine g_iload_n (i := 3) (by decide +kernel) rfl ?_
         refine g_iald (j := q) (by decide +kernel) (by omega) hP.a2 rfl (by omega) (by decide) ?_
         exact g_eq (J42 (fun z => z.2 (by rw [eq2]; exact h20))) rfl (by rw [eq]) (by unfold zTa; rw [if_neg hz, eq2]))
  · refine g_aload_n (i := 1) (by decide +kernel) rfl ?_
    refine g_iload_n (i := 3) (by decide +kernel) rfl ?_
    obtain ⟨q, eq⟩ := Int.eq_ofNat_of_zero_le (show 0 ≤ σ 3 k by omega)
    have eq2 : (σ 3 k).toNat = q := by omega
    have mq := rp.2 q (by omega)
    rw [eq]
    refine g_cVI (st := []) (c_Mo_runs (k := q) hn hP (by omega) mq.1) k_Mo_runs l_Sg_112 (by decide +kernel) (by omega) hP.a0 rfl rfl rfl (Nat.le_of_ble_eq_true rfl) (by decide) ⟨by decide, by decide⟩ ?_
    rintro a σ1 ⟨ea, hσ⟩
    obtain rfl := hσ.symm
    subst ea
    refine g_if_ne (off := 4) (tgt := 24) (by decide +kernel) (by decide) zbr (fun h20 => ?_) (fun h20 => ?_)
    · have h20 := zb1.mp h20
      first
        | (have hz : σ 3 k = -1 := h12
           refine g_iload_n (i := 3) (by decide +kernel) rfl ?_
           refine g_iconst (a := -1) (by decide +kernel) ?_
           refine g_icmp_ne (off := 10) (tgt := 36) (by decide +kernel) (by decide) ⟨by omega, by omega⟩ ⟨by omega, by omega⟩ (fun h => absurd hz h) (fun _ => ?_)
           refine g_aload_n (i := 1) (by decide +kernel) rfl ?_
           refine g_geti f_Sg_43 (by decide +kernel) (by omega) hP.a0 rfl ?_
           refine g_goto (off := 9) (tgt := 42) (by decide +kernel) (by decide) ?_
           exact g_eq (J42 (fun z => z.1 hz)) rfl rfl (by unfold zTa; rw [if_pos hz]))
        | (have hz : σ 3 k ≠ -1 := h12
           refine g_iload_n (i := 3) (by decide +kernel) rfl ?_
           refine g_iconst (a := -1) (by decide +kernel) ?_
           refine g_icmp_ne (off := 10) (tgt := 36) (by decide +kernel) (by decide) ⟨by omega, by omega⟩ ⟨by omega, by omega⟩ (fun _ => ?_) (fun h => absurd (by omega) hz)
           refine g_aload_n (i := 1) (by decide +kernel) rfl ?_
           refine g_getr f_Sg_127 (by decide +kernel) (by omega) hP.a0 rfl ?_
           refine g_iload_n (i := 3) (by decide +kernel) rfl ?_
           refine g_iald (j := q) (by decide +kernel) (by omega) hP.a2 rfl (by omega) (by decide) ?_
           exact g_eq (J42 (fun z => z.2 (by rw [eq2]; exact h20))) rfl (by rw [eq]) (by unfold zTa; rw [if_neg hz, eq2]))
    · have h20 := zb0.mp h20
      refine g_retV (by decide +kernel) rfl ⟨by decide, by decide⟩ ?_
      unfold zFC
      rw [if_pos ⟨h12, by rw [eq2]; exact h20⟩]
end
section
/-! ALL THAT HOLDS AT A TIME: the equations of a moment p in the state σ -/
def zRun (σ : zSt) (p k : Nat) (st s : Int) : Prop := σ (p + 1) k = st ∧ σ (p + 2) k = (if σ 8 (9 * k + 4) = 1 then σ 22 k - 1 - s * σ 8 (9 * k + 1) % σ 22 k else s * σ 8 (9 * k + 1) % σ 22 k) ∧ σ (p + 3) k = s * σ 8 (9 * k + 1) / σ 22 k ∧ σ (p + 4) k = zBk σ p k ∧ σ (p + 5) k = s ∧ σ (p + 6) k = zStr σ p k
def zIdle (σ : zSt) (p k : Nat) (st bg : Int) : Prop := σ (p + 1) k = st ∧ σ (p + 2) k = -1 ∧ σ (p + 3) k = -1 ∧ σ (p + 4) k = bg ∧ σ (p + 5) k = 0 ∧ σ (p + 6) k = 0
def zOff (σ : zSt) (p k : Nat) : Prop := σ 3 k ≠ -1 ∧ ¬ (σ (p + 1) (σ 3 k).toNat = 2 ∨ σ (p + 1) (σ 3 k).toNat = 3)
def zMq (σ : zSt) (p k : Nat) : Prop := (zOff σ p k → zIdle σ p k 0 (-1)) ∧ (¬ zOff σ p k →
  ((zBk σ p k = -1 ∨ zTa σ p k < zBk σ p k) → zIdle σ p k 1 (zBk σ p k)) ∧
  (¬ (zBk σ p k = -1 ∨ zTa σ p k < zBk σ p k) → (zTa σ p k - zBk σ p k < σ 23 k → zRun σ p k 2 (zTa σ p k - zBk σ p k)) ∧
    (¬ zTa σ p k - zBk σ p k < σ 23 k → ((σ 8 (9 * k + 5) = 1 ∧ 0 < σ 23 k) → zRun σ p k 3 (σ 23 k - 1)) ∧ (¬ (σ 8 (9 * k + 5) = 1 ∧ 0 < σ 23 k) → zIdle σ p k 4 (zBk σ p k)))))
/-- two states that are alike for clips below k of moment p -/
def zAg (τ τ' : zSt) (p k : Nat) : Prop := (∀ a, (a < p ∨ p + 8 ≤ a) → τ' a = τ a) ∧ τ' p 0 = τ p 0 ∧ ∀ r, 1 ≤ r → r ≤ 6 → ∀ j, j < k → τ' (p + r) j = τ (p + r) j
section AG
variable {τ τ' : zSt} {p k : Nat}
theorem zAg.o (h : zAg τ τ' p k) (hp : 34 ≤ p) {a : Nat} (ha : a < 34) : τ' a = τ a := h.1 a (by omega)
theorem zTa_ag (h : zAg τ τ' p k) (hp : 34 ≤ p) {j : Nat} (hj : -1 ≤ τ 3 j ∧ τ 3 j < k) : zTa τ' p j = zTa τ p j := by
  unfold zTa
  rw [h.o hp (a := 3) (by decide), h.2.1]
  split
  · rfl
  · exact h.2.2 2 (by decide) (by decide) _ (by omega)
theorem zsame_ag {ar pa pb pa' pb' : Nat → Int} (ht : ∀ j, j < k → -1 ≤ ar j ∧ ar j < j) (ha : ∀ j, j < k → pa' j = pa j) (hb : ∀ j, j < k → pb' j = pb j) : ∀ f (x : Int), -1 ≤ x → x < k → zsame ar pa' pb' f x = zsame ar pa pb f x
  | 0, _, _, _ => rfl
  | f + 1, x, h1, h2 => by
    rw [zsame_s, zsame_s]
    split
    · rfl
    · rw [ha _ (by omega), hb _ (by omega)]
      split
      · have := ht x.toNat (by omega)
        exact zsame_ag ht ha hb f _ (by omega) (by omega)
      · rfl
theorem zTh_ag (h : zAg τ τ' p k) (hp : 34 ≤ p) (i : Nat) : zTh τ' p i = zTh τ p i := by
  unfold zTh; rw [h.o hp (a := 10) (by decide), h.2.1]
theorem zTh_row (h : zAg τ τ' p k) {i : Nat} (hi : i < 6) (hs : ∀ i, i < 6 → p + 8 ≤ 45 + 8 * i ∨ 45 + 8 * i + 8 ≤ p ∨ (p = 45 + 8 * i ∧ τ 10 i = τ p 0)) {r j : Nat} (h1 : 1 ≤ r) (h2 : r ≤ 6) (hj : j < k) : τ' (zTh τ p i + r) j = τ (zTh τ p i + r) j := by
  unfold zTh
  split
  · exact h.2.2 r h1 h2 j hj
  · next e =>
    rcases hs i hi with z | z | z
    · rw [h.1 _ (by omega)]
    · rw [h.1 _ (by omega)]
    · exact absurd z.2 e
theorem zbp_ag (h : zAg τ τ' p k) (hp : 34 ≤ p ∧ (p + 8 ≤ 43 ∨ 45 ≤ p)) (hs : ∀ i, i < 6 → p + 8 ≤ 45 + 8 * i ∨ 45 + 8 * i + 8 ≤ p ∨ (p = 45 + 8 * i ∧ τ 10 i = τ p 0)) (ht : ∀ j, j < k → -1 ≤ τ 3 j ∧ τ 3 j < j) {j : Nat} (hj : 0 ≤ τ 3 j ∧ τ 3 j < k) {i : Nat} (hi : 0 ≤ τ 43 i ∧ τ 43 i < 6) : zbp τ' p j i = zbp τ p j i := by
  unfold zbp
  rw [h.1 43 (by omega), h.o hp.1 (a := 3) (by decide), h.o hp.1 (a := 7) (by decide), h.o hp.1 (a := 9) (by decide), h.o hp.1 (a := 10) (by decide), h.o hp.1 (a := 25) (by decide), h.2.1, zTh_ag h hp.1, zTh_row h (by omega) hs (by decide) (by decide) (by omega)]
  rw [zsame_ag ht (fun j hj => h.2.2 3 (by decide) (by decide) j hj) (fun j hj => zTh_row h (by omega) hs (by decide) (by decide) hj) 12 _ (by omega) hj.2]
theorem zBk_ag (h : zAg τ τ' p k) (hp : 34 ≤ p ∧ (p + 8 ≤ 43 ∨ 45 ≤ p)) (hs : ∀ i, i < 6 → p + 8 ≤ 45 + 8 * i ∨ 45 + 8 * i + 8 ≤ p ∨ (p = 45 + 8 * i ∧ τ 10 i = τ p 0)) (ht : ∀ j, j < k → -1 ≤ τ 3 j ∧ τ 3 j < j) {j : Nat} (hj : τ 26 j = 0 ∨ 0 ≤ τ 3 j ∧ τ 3 j < k) (hor : ∀ i, i < (τ 1 8).toNat → 0 ≤ τ 43 i ∧ τ 43 i < 6) : zBk τ' p j = zBk τ p j := by
  unfold zBk
  rw [h.o hp.1 (a := 26) (by decide), h.o hp.1 (a := 24) (by decide)]
  split
  · rfl
  · next e =>
    have hj : 0 ≤ τ 3 j ∧ τ 3 j < k := hj.resolve_left e
    unfold zBP
    rw [h.o hp.1 (a := 1) (by decide), zfst_congr (q := zbp τ p j) (fun i hi => zbp_ag h hp hs ht hj (hor i hi))]
    split
    · rfl
    · next e2 =>
      have z := zfst_range (p := zbp τ p j) (n := (τ 1 8).toNat)
      have o := hor (zfst (zbp τ p j) (τ 1 8).toNat).toNat (by omega)
      rw [h.1 43 (by omega), h.o hp.1 (a := 3) (by decide), h.o hp.1 (a := 24) (by decide), zTh_ag h hp.1, zTh_row h (by omega) hs (by decide) (by decide) (by omega)]
theorem zStr_ag (h : zAg τ τ' p k) (hp : 34 ≤ p) {j : Nat} (hj : j < k) (ha : -1 ≤ τ 3 j ∧ τ 3 j < k) : zStr τ' p j = zStr τ p j := by
  unfold zStr zOwn
  rw [h.o hp (a := 3) (by decide), h.o hp (a := 8) (by decide), h.o hp (a := 23) (by decide), h.2.2 5 (by decide) (by decide) j hj]
  congr 2
  split
  · rfl
  · exact h.2.2 6 (by decide) (by decide) _ (by omega)
theorem zOff_ag (h : zAg τ τ' p k) (hp : 34 ≤ p) {j : Nat} (ha : -1 ≤ τ 3 j ∧ τ 3 j < k) : zOff τ' p j ↔ zOff τ p j := by
  unfold zOff
  rw [h.o hp (a := 3) (by decide)]
  by_cases e : τ 3 j = -1
  · simp [e]
  · rw [h.2.2 1 (by decide) (by decide) _ (by omega)]
theorem zMq_ag (h : zAg τ τ' p k) (hp : 34 ≤ p ∧ (p + 8 ≤ 43 ∨ 45 ≤ p)) (hs : ∀ i, i < 6 → p + 8 ≤ 45 + 8 * i ∨ 45 + 8 * i + 8 ≤ p ∨ (p = 45 + 8 * i ∧ τ 10 i = τ p 0)) (ht : ∀ j, j < k → -1 ≤ τ 3 j ∧ τ 3 j < j) (hor : ∀ i, i < (τ 1 8).toNat → 0 ≤ τ 43 i ∧ τ 43 i < 6) {j : Nat} (hj : j < k) (ho : τ 26 j = 0 ∨ 0 ≤ τ 3 j) (hm : zMq τ p j) : zMq τ' p j := by
  have t := ht j hj
  have r : ∀ r, 1 ≤ r → r ≤ 6 → τ' (p + r) j = τ (p + r) j := fun r h1 h2 => h.2.2 r h1 h2 j hj
  unfold zMq zIdle zRun at *
  rw [zOff_ag h hp.1 ⟨t.1, by omega⟩, zTa_ag h hp.1 ⟨t.1, by omega⟩, zBk_ag h hp hs ht (by rcases ho with z | z; exact Or.inl z; exact Or.inr ⟨z, by omega⟩) hor, zStr_ag h hp.1 hj ⟨t.1, by omega⟩, h.o hp.1 (a := 23) (by decide), h.o hp.1 (a := 22) (by decide), h.o hp.1 (a := 8) (by decide), r 1 (by decide) (by decide), r 2 (by decide) (by decide), r 3 (by decide) (by decide), r 4 (by decide) (by decide), r 5 (by decide) (by decide), r 6 (by decide) (by decide)]
  exact hm
end AG
/-- what the layout says of clip k, as far as a moment asks it -/
def zKk (σ : zSt) (k : Nat) : Prop := (-1 ≤ σ 3 k ∧ σ 3 k < k) ∧ (σ 26 k = 0 ∨ σ 26 k = 1 ∧ (0 ≤ σ 3 k ∧ 0 ≤ σ 25 k ∧ σ 25 k ≤ 11)) ∧ (0 ≤ σ 24 k ∧ σ 24 k ≤ 1000000000) ∧ (0 ≤ σ 23 k ∧ σ 23 k ≤ 1000000000) ∧ (0 < σ 23 k → 1 ≤ σ 22 k ∧ σ 22 k ≤ 100000000) ∧ (1 ≤ σ 8 (9 * k + 1) ∧ σ 8 (9 * k + 1) ≤ 4) ∧ ∀ s, 0 ≤ s → s < σ 23 k → s * σ 8 (9 * k + 1) / σ 22 k ≤ 1000000000
def zClr (σ : zSt) (p k : Nat) : zSt := zs (zs (zs (zs (zs (zs σ (p + 1) k 0) (p + 2) k (-1)) (p + 3) k (-1)) (p + 4) k (-1)) (p + 5) k 0) (p + 7) k 0
/-- a clip's step: cleared, filled, its strength -/
def zStp (σ : zSt) (p k : Nat) : zSt := zs (zFC (zClr σ p k) p k) (p + 6) k (if zFC (zClr σ p k) p k (p + 1) k = 2 ∨ zFC (zClr σ p k) p k (p + 1) k = 3 then zStr (zFC (zClr σ p k) p k) p k else 0)
/-- only place k of the rows of moment p is written -/
def zAt (σ σ' : zSt) (p k : Nat) : Prop := (∀ a, (a ≤ p ∨ p + 8 ≤ a) → σ' a = σ a) ∧ ∀ r, 1 ≤ r → r ≤ 7 → ∀ j, j ≠ k → σ' (p + r) j = σ (p + r) j
theorem zAt.rf {σ : zSt} {p k : Nat} : zAt σ σ p k := ⟨fun _ _ => rfl, fun _ _ _ _ _ => rfl⟩
theorem zAt.put {σ σ' : zSt} {p k r : Nat} {v : Int} (h : zAt σ σ' p k) (h1 : 1 ≤ r) (h2 : r ≤ 7) : zAt σ (zs σ' (p + r) k v) p k := ⟨fun a ha => by rw [zs_other (by omega)]; exact h.1 a ha, fun r' a b j hj => by
  by_cases e : r' = r
  · subst e; rw [zs_row, zu_ne hj]; exact h.2 r' a b j hj
  · rw [zs_other (by omega)]; exact h.2 r' a b j hj⟩
theorem zAt.tr {σ σ' σ2 : zSt} {p k : Nat} (h : zAt σ σ' p k) (g : zAt σ' σ2 p k) : zAt σ σ2 p k := ⟨fun a ha => (g.1 a ha).trans (h.1 a ha), fun r h1 h2 j hj => (g.2 r h1 h2 j hj).trans (h.2 r h1 h2 j hj)⟩
theorem zAt.ag {σ σ' : zSt} {p k : Nat} (h : zAt σ σ' p k) : zAg σ σ' p k := ⟨fun a ha => h.1 a (by omega), by rw [h.1 p (by omega)], fun r h1 h2 j hj => h.2 r h1 (by omega) j (by omega)⟩
theorem zClr_at (σ : zSt) (p k : Nat) : zAt σ (zClr σ p k) p k := (((((zAt.rf.put (by decide) (by decide)).put (by decide) (by decide)).put (by decide) (by decide)).put (by decide) (by decide)).put (by decide) (by decide)).put (by decide) (by decide)
theorem zFR_at (σ : zSt) (p k : Nat) (s : Int) : zAt σ (zFR σ p k s) p k := ((zAt.rf.put (by decide) (by decide)).put (by decide) (by decide)).put (by decide) (by decide)
theorem zFC_at (σ : zSt) (p k : Nat) : zAt σ (zFC σ p k) p k := by
  unfold zFC
  have a : ∀ v, zAt σ (zs (zs σ (p + 4) k (zBk σ p k)) (p + 1) k v) p k := fun v => (zAt.rf.put (by decide) (by decide)).put (by decide) (by decide)
  split
  · exact zAt.rf
  · split
    · exact a 1
    · split
      · exact (a 2).tr (zFR_at _ _ _ _)
      · split
        · exact (a 3).tr (zFR_at _ _ _ _)
        · exact a 4
theorem zStp_at (σ : zSt) (p k : Nat) : zAt σ (zStp σ p k) p k := ((zClr_at σ p k).tr (zFC_at _ _ _)).put (by decide) (by decide)
section STP
variable {σ : zSt} {p k : Nat}
/-- the rows at k behind the step -/
theorem zStp_mq (hp : 34 ≤ p ∧ (p + 8 ≤ 43 ∨ 45 ≤ p)) (hs : ∀ i, i < 6 → p + 8 ≤ 45 + 8 * i ∨ 45 + 8 * i + 8 ≤ p ∨ (p = 45 + 8 * i ∧ σ 10 i = σ p 0)) (ht : ∀ j, j ≤ k → -1 ≤ σ 3 j ∧ σ 3 j < j) (hor : ∀ i, i < (σ 1 8).toNat → 0 ≤ σ 43 i ∧ σ 43 i < 6) (ho : σ 26 k = 0 ∨ 0 ≤ σ 3 k) : zMq (zStp σ p k) p k := by
  have A := (zClr_at σ p k)
  have B := zFC_at (zClr σ p k) p k
  have hk := ht k (Nat.le_refl k)
  -- what is asked of the parents is the same in all
  have hC : ∀ a, a < 34 → zClr σ p k a = σ a := fun a ha => A.1 a (by omega)
  have c3 := hC 3 (by decide)
  have AG : zAg (zClr σ p k) (zStp σ p k) p k := (B.put (by decide) (by decide)).ag
  have hs2 : ∀ i, i < 6 → p + 8 ≤ 45 + 8 * i ∨ 45 + 8 * i + 8 ≤ p ∨ (p = 45 + 8 * i ∧ zClr σ p k 10 i = zClr σ p k p 0) := by rw [hC 10 (by decide), A.1 p (by omega)]; exact hs
  have ht2 : ∀ j, j < k → -1 ≤ zClr σ p k 3 j ∧ zClr σ p k 3 j < j := by rw [c3]; exact fun j hj => ht j (by omega)
  have hor2 : ∀ i, i < (zClr σ p k 1 8).toNat → 0 ≤ zClr σ p k 43 i ∧ zClr σ p k 43 i < 6 := by rw [hC 1 (by decide), A.1 43 (by omega)]; exact hor
  have e1 := zOff_ag AG hp.1 (j := k) (by rw [c3]; omega)
  have e2 := zTa_ag AG hp.1 (j := k) (by rw [c3]; omega)
  have e3 := zBk_ag AG hp hs2 ht2 (j := k) (by rw [c3, hC 26 (by decide)]; omega) hor2
  have o : ∀ a, a < 34 → zStp σ p k a = zClr σ p k a := fun a ha => AG.o hp.1 ha
  have e4 : zStr (zStp σ p k) p k = zStr (zFC (zClr σ p k) p k) p k := by
    have D : ∀ a, a < 34 → zFC (zClr σ p k) p k a = zClr σ p k a := fun a ha => B.1 a (by omega)
    unfold zStr zOwn
    rw [o 3 (by decide), o 8 (by decide), o 23 (by decide), D 3 (by decide), D 8 (by decide), D 23 (by decide)]
    have r5 : zStp σ p k (p + 5) = zFC (zClr σ p k) p k (p + 5) := zs_other (by omega)
    rw [r5]
    congr 2
    split
    · rfl
    · next e =>
      show zs _ (p + 6) k _ (p + 6) _ = _
      rw [zs_row, zu_ne (by rw [c3] at e ⊢; omega)]
  have r6 : zStp σ p k (p + 6) k = if zFC (zClr σ p k) p k (p + 1) k = 2 ∨ zFC (zClr σ p k) p k (p + 1) k = 3 then zStr (zFC (zClr σ p k) p k) p k else 0 := zs_eq _ _ _ _
  have rr : ∀ r, r ≠ 6 → zStp σ p k (p + r) = zFC (zClr σ p k) p k (p + r) := fun r hr => zs_other (by omega)
  have d1 : zClr σ p k (p + 1) k = 0 := by simp [zClr, zs_app, zu_app]
  have d2 : zClr σ p k (p + 2) k = -1 := by simp [zClr, zs_app, zu_app]
  have d3 : zClr σ p k (p + 3) k = -1 := by simp [zClr, zs_app, zu_app]
  have d4 : zClr σ p k (p + 4) k = -1 := by simp [zClr, zs_app, zu_app]
  have d5 : zClr σ p k (p + 5) k = 0 := by simp [zClr, zs_app, zu_app]
  unfold zMq zIdle zRun
  rw [e1, e2, e3, e4, o 23 (by decide), o 22 (by decide), o 8 (by decide), r6, rr 1 (by decide), rr 2 (by decide), rr 3 (by decide), rr 4 (by decide), rr 5 (by decide)]
  refine ⟨fun z => ?_, fun z => ⟨fun z2 => ?_, fun z2 => ⟨fun z3 => ?_, fun z3 => ⟨fun z4 => ?_, fun z4 => ?_⟩⟩⟩⟩
  · have E : zFC (zClr σ p k) p k = zClr σ p k := by unfold zFC; exact if_pos z
    rw [E, d1, d2, d3, d4, d5]; simp
  · have E : zFC (zClr σ p k) p k = zs (zs (zClr σ p k) (p + 4) k (zBk (zClr σ p k) p k)) (p + 1) k 1 := by unfold zFC; unfold zOff at z; rw [if_neg z, if_pos z2]
    rw [E]; simp [zs_app, zu_app, d2, d3, d5]
  · have E : zFC (zClr σ p k) p k = zFR (zs (zs (zClr σ p k) (p + 4) k (zBk (zClr σ p k) p k)) (p + 1) k 2) p k (zTa (zClr σ p k) p k - zBk (zClr σ p k) p k) := by unfold zFC; unfold zOff at z; rw [if_neg z, if_neg z2, if_pos z3]
    have w8 : zs (zs (zClr σ p k) (p + 4) k (zBk (zClr σ p k) p k)) (p + 1) k 2 8 = zClr σ p k 8 := by rw [zs_other (by omega), zs_other (by omega)]
    have w22 : zs (zs (zClr σ p k) (p + 4) k (zBk (zClr σ p k) p k)) (p + 1) k 2 22 = zClr σ p k 22 := by rw [zs_other (by omega), zs_other (by omega)]
    have s1 : zFC (zClr σ p k) p k (p + 1) k = 2 := by rw [E]; simp [zFR, zs_app, zu_app]
    rw [s1, if_pos (Or.inl rfl)]
    rw [E]
    unfold zFR
    rw [w8, w22]
    simp [zs_app, zu_app]
  · have E : zFC (zClr σ p k) p k = zFR (zs (zs (zClr σ p k) (p + 4) k (zBk (zClr σ p k) p k)) (p + 1) k 3) p k (zClr σ p k 23 k - 1) := by unfold zFC; unfold zOff at z; rw [if_neg z, if_neg z2, if_neg z3, if_pos z4]
    have w8 : zs (zs (zClr σ p k) (p + 4) k (zBk (zClr σ p k) p k)) (p + 1) k 3 8 = zClr σ p k 8 := by rw [zs_other (by omega), zs_other (by omega)]
    have w22 : zs (zs (zClr σ p k) (p + 4) k (zBk (zClr σ p k) p k)) (p + 1) k 3 22 = zClr σ p k 22 := by rw [zs_other (by omega), zs_other (by omega)]
    have s1 : zFC (zClr σ p k) p k (p + 1) k = 3 := by rw [E]; simp [zFR, zs_app, zu_app]
    rw [s1, if_pos (Or.inr rfl)]
    rw [E]
    unfold zFR
    rw [w8, w22]
    simp [zs_app, zu_app]
  · have E : zFC (zClr σ p k) p k = zs (zs (zClr σ p k) (p + 4) k (zBk (zClr σ p k) p k)) (p + 1) k 4 := by unfold zFC; unfold zOff at z; rw [if_neg z, if_neg z2, if_neg z3, if_neg z4]
    rw [E]; simp [zs_app, zu_app, d2, d3, d5]
end STP
end
section
/-! bounds within a moment -/
section MR
variable {σ : zSt} {p k : Nat}
theorem zBk_in (rp : zMr σ p) (rA : ∀ j, j < 6 → zMr σ (45 + 8 * j)) (hor : ∀ i, i < (σ 1 8).toNat → 0 ≤ σ 43 i ∧ σ 43 i < 6) (hk : k < 12) (h : zKk σ k) : -1 ≤ zBk σ p k ∧ zBk σ p k ≤ 2000000000 := by
  obtain ⟨h1, h2, h3, h4, h5, h6, h7⟩ := h
  unfold zBk
  split
  · omega
  · unfold zBP
    split
    · omega
    · next e1 e2 =>
      have z := zfst_range (p := zbp σ p k) (n := (σ 1 8).toNat)
      have o := hor (zfst (zbp σ p k) (σ 1 8).toNat).toNat (by omega)
      unfold zTh
      split
      · have := (rp.2 (σ 3 k).toNat (by omega)).2.1; omega
      · have := ((rA (σ 43 (zfst (zbp σ p k) (σ 1 8).toNat).toNat).toNat (by omega)).2 (σ 3 k).toNat (by omega)).2.1; omega
/-- one row's place anew keeps the bounds -/
theorem zMr_put {σ' : zSt} (rp : zMr σ p) (h : zAt σ σ' p k) (hk : (0 ≤ σ' (p + 1) k ∧ σ' (p + 1) k ≤ 4) ∧ (-1 ≤ σ' (p + 2) k ∧ σ' (p + 2) k ≤ 1000000000) ∧ (-1 ≤ σ' (p + 3) k ∧ σ' (p + 3) k ≤ 1000000000) ∧ (-1 ≤ σ' (p + 4) k ∧ σ' (p + 4) k ≤ 2000000000) ∧ (0 ≤ σ' (p + 5) k ∧ σ' (p + 5) k ≤ 1000000000) ∧ (0 ≤ σ' (p + 6) k ∧ σ' (p + 6) k ≤ 100) ∧ (0 ≤ σ' (p + 7) k ∧ σ' (p + 7) k ≤ 100)) : zMr σ' p := by
  refine ⟨by rw [h.1 p (by omega)]; exact rp.1, fun j hj => ?_⟩
  by_cases e : j = k
  · subst e; exact hk
  · rw [h.2 1 (by decide) (by decide) j e, h.2 2 (by decide) (by decide) j e, h.2 3 (by decide) (by decide) j e, h.2 4 (by decide) (by decide) j e, h.2 5 (by decide) (by decide) j e, h.2 6 (by decide) (by decide) j e, h.2 7 (by decide) (by decide) j e]
    exact rp.2 j hj
theorem zClr_mr (rp : zMr σ p) (hk : k < 12) : zMr (zClr σ p k) p := by
  have a := rp.2 k hk
  refine zMr_put rp (zClr_at σ p k) ?_
  have d6 : zClr σ p k (p + 6) k = σ (p + 6) k := by simp [zClr, zs_app, zu_app]
  rw [show zClr σ p k (p + 1) k = 0 by simp [zClr, zs_app, zu_app], show zClr σ p k (p + 2) k = -1 by simp [zClr, zs_app, zu_app], show zClr σ p k (p + 3) k = -1 by simp [zClr, zs_app, zu_app], show zClr σ p k (p + 4) k = -1 by simp [zClr, zs_app, zu_app], show zClr σ p k (p + 5) k = 0 by simp [zClr, zs_app, zu_app], show zClr σ p k (p + 7) k = 0 by simp [zClr, zs_app, zu_app], d6]
  exact ⟨by decide, by decide, by decide, by decide, by decide, a.2.2.2.2.2.1, by decide⟩
/-- the rows that fillClip leaves at k -/
theorem zFC_rows (hp : 34 ≤ p) (rp : zMr σ p) (rA : ∀ j, j < 6 → zMr σ (45 + 8 * j)) (hor : ∀ i, i < (σ 1 8).toNat → 0 ≤ σ 43 i ∧ σ 43 i < 6) (hk : k < 12) (h : zKk σ k) : zMr (zFC σ p k) p ∧ (zFC σ p k (p + 1) k = 2 ∨ zFC σ p k (p + 1) k = 3 → (σ (p + 1) k ≠ 2 ∧ σ (p + 1) k ≠ 3) → 0 ≤ zFC σ p k (p + 5) k ∧ zFC σ p k (p + 5) k ≤ σ 23 k) ∧ zFC σ p k (p + 6) = σ (p + 6) ∧ zFC σ p k (p + 7) = σ (p + 7) := by
  have b := zBk_in rp rA hor hk h
  have a := rp.2 k hk
  obtain ⟨h1, h2, h3, h4, h5, h6, h7⟩ := h
  have A := zFC_at σ p k
  have fr : ∀ (st s : Int), (st = 2 ∨ st = 3) → 0 ≤ s → s < σ 23 k → zFC σ p k = zFR (zs (zs σ (p + 4) k (zBk σ p k)) (p + 1) k st) p k s → zMr (zFC σ p k) p ∧ (zFC σ p k (p + 1) k = 2 ∨ zFC σ p k (p + 1) k = 3 → (σ (p + 1) k ≠ 2 ∧ σ (p + 1) k ≠ 3) → 0 ≤ zFC σ p k (p + 5) k ∧ zFC σ p k (p + 5) k ≤ σ 23 k) ∧ zFC σ p k (p + 6) = σ (p + 6) ∧ zFC σ p k (p + 7) = σ (p + 7) := by
    intro st s hst s0 s1 E
    have w8 : zs (zs σ (p + 4) k (zBk σ p k)) (p + 1) k st 8 = σ 8 := by rw [zs_other (by omega), zs_other (by omega)]
    have w22 : zs (zs σ (p + 4) k (zBk σ p k)) (p + 1) k st 22 = σ 22 := by rw [zs_other (by omega), zs_other (by omega)]
    have si := h5 (by omega)
    have m0 : 0 ≤ s * σ 8 (9 * k + 1) := Int.mul_nonneg s0 (by omega)
    have r0 := Int.emod_nonneg (s * σ 8 (9 * k + 1)) (show σ 22 k ≠ 0 by omega)
    have r1 := Int.emod_lt_of_pos (s * σ 8 (9 * k + 1)) (show 0 < σ 22 k by omega)
    have q0 : 0 ≤ s * σ 8 (9 * k + 1) / σ 22 k := Int.ediv_nonneg m0 (by omega)
    have q1 := h7 s s0 s1
    have e1 : zFC σ p k (p + 1) k = st := by rw [E]; simp [zFR, zs_app, zu_app]
    have e2 : zFC σ p k (p + 2) k = (if σ 8 (9 * k + 4) = 1 then σ 22 k - 1 - s * σ 8 (9 * k + 1) % σ 22 k else s * σ 8 (9 * k + 1) % σ 22 k) := by rw [E]; unfold zFR; rw [w8, w22]; simp [zs_app, zu_app]
    have e3 : zFC σ p k (p + 3) k = s * σ 8 (9 * k + 1) / σ 22 k := by rw [E]; unfold zFR; rw [w8, w22]; simp [zs_app, zu_app]
    have e4 : zFC σ p k (p + 4) k = zBk σ p k := by rw [E]; simp [zFR, zs_app, zu_app]
    have e5 : zFC σ p k (p + 5) k = s := by rw [E]; simp [zFR, zs_app, zu_app]
    have e6 : zFC σ p k (p + 6) = σ (p + 6) := by rw [E]; unfold zFR; rw [zs_other (by omega), zs_other (by omega), zs_other (by omega), zs_other (by omega), zs_other (by omega)]
    have e7 : zFC σ p k (p + 7) = σ (p + 7) := by rw [E]; unfold zFR; rw [zs_other (by omega), zs_other (by omega), zs_other (by omega), zs_other (by omega), zs_other (by omega)]
    refine ⟨zMr_put rp A ?_, fun _ _ => by rw [e5]; omega, e6, e7⟩
    rw [e1, e2, e3, e4, e5, e6, e7]
    refine ⟨by omega, by split <;> omega, ⟨by omega, q1⟩, b, by omega, a.2.2.2.2.2.1, a.2.2.2.2.2.2⟩
  have idle : ∀ st : Int, (st = 1 ∨ st = 4) → zFC σ p k = zs (zs σ (p + 4) k (zBk σ p k)) (p + 1) k st → zMr (zFC σ p k) p ∧ (zFC σ p k (p + 1) k = 2 ∨ zFC σ p k (p + 1) k = 3 → (σ (p + 1) k ≠ 2 ∧ σ (p + 1) k ≠ 3) → 0 ≤ zFC σ p k (p + 5) k ∧ zFC σ p k (p + 5) k ≤ σ 23 k) ∧ zFC σ p k (p + 6) = σ (p + 6) ∧ zFC σ p k (p + 7) = σ (p + 7) := by
    intro st hst E
    have e1 : zFC σ p k (p + 1) k = st := by rw [E]; simp [zs_app, zu_app]
    have e4 : zFC σ p k (p + 4) k = zBk σ p k := by rw [E]; simp [zs_app, zu_app]
    have ee : ∀ r, r ≠ 1 → r ≠ 4 → zFC σ p k (p + r) = σ (p + r) := fun r r1 r4 => by rw [E, zs_other (by omega), zs_other (by omega)]
    refine ⟨zMr_put rp A ?_, fun z _ => by rw [e1] at z; omega, ee 6 (by decide) (by decide), ee 7 (by decide) (by decide)⟩
    rw [e1, e4, ee 2 (by decide) (by decide), ee 3 (by decide) (by decide), ee 5 (by decide) (by decide), ee 6 (by decide) (by decide), ee 7 (by decide) (by decide)]
    exact ⟨by omega, a.2.1, a.2.2.1, b, a.2.2.2.2.1, a.2.2.2.2.2.1, a.2.2.2.2.2.2⟩
  by_cases z : σ 3 k ≠ -1 ∧ ¬ (σ (p + 1) (σ 3 k).toNat = 2 ∨ σ (p + 1) (σ 3 k).toNat = 3)
  · have E : zFC σ p k = σ := by unfold zFC; rw [if_pos z]
    rw [E]
    exact ⟨rp, fun x y => by omega, rfl, rfl⟩
  · by_cases z2 : zBk σ p k = -1 ∨ zTa σ p k < zBk σ p k
    · exact idle 1 (Or.inl rfl) (by unfold zFC; rw [if_neg z, if_pos z2])
    · by_cases z3 : zTa σ p k - zBk σ p k < σ 23 k
      · exact fr 2 _ (Or.inl rfl) (by omega) z3 (by unfold zFC; rw [if_neg z, if_neg z2, if_pos z3])
      · by_cases z4 : σ 8 (9 * k + 5) = 1 ∧ 0 < σ 23 k
        · exact fr 3 (σ 23 k - 1) (Or.inr rfl) (by omega) (by omega) (by unfold zFC; rw [if_neg z, if_neg z2, if_neg z3, if_pos z4])
        · exact idle 4 (Or.inr rfl) (by unfold zFC; rw [if_neg z, if_neg z2, if_neg z3, if_neg z4])
theorem zKk_eq {σ' : zSt} (h : ∀ a, a < 34 → σ' a = σ a) (hk : zKk σ k) : zKk σ' k := by
  unfold zKk at *
  rw [h 3 (by decide), h 26 (by decide), h 25 (by decide), h 24 (by decide), h 23 (by decide), h 22 (by decide), h 8 (by decide)]
  exact hk
theorem zStr_in (hp : 34 ≤ p) (h5 : 0 ≤ σ (p + 5) k ∧ σ (p + 5) k ≤ σ 23 k) (h7 : 0 ≤ σ 8 (9 * k + 7)) (h8 : 0 ≤ σ 8 (9 * k + 8)) (h6 : ∀ j, j < 12 → 0 ≤ σ (p + 6) j ∧ σ (p + 6) j ≤ 100) (ha : -1 ≤ σ 3 k ∧ σ 3 k ≤ 11) : 0 ≤ zStr σ p k ∧ zStr σ p k ≤ 100 := by
  have ow := zOwn_in h5.1 h5.2 h7 h8
  have st : 0 ≤ (if σ 3 k = -1 then 100 else σ (p + 6) (σ 3 k).toNat) ∧ (if σ 3 k = -1 then 100 else σ (p + 6) (σ 3 k).toNat) ≤ 100 := by
    split
    · omega
    · exact h6 _ (by omega)
  have pr0 : 0 ≤ zOwn σ p k * (if σ 3 k = -1 then 100 else σ (p + 6) (σ 3 k).toNat) := Int.mul_nonneg ow.1 st.1
  have pr1 : zOwn σ p k * (if σ 3 k = -1 then 100 else σ (p + 6) (σ 3 k).toNat) ≤ 100 * 100 := Int.mul_le_mul ow.2 st.2 st.1 (by omega)
  unfold zStr
  omega
end MR
end
section
/-- what is asked before a moment p is filled -/
def zPreF (σ : zSt) (p : Nat) (t : Int) : Prop := (zGood σ 1 ∧ zMr σ p ∧ (∀ j, j < 6 → zMr σ (45 + 8 * j))) ∧ (∀ i, i < (σ 1 8).toNat → 0 ≤ σ 43 i ∧ σ 43 i < 6) ∧ (∀ k, k < (σ 1 0).toNat → zKk σ k) ∧ (34 ≤ p ∧ (p + 8 ≤ 43 ∨ 45 ≤ p)) ∧ (∀ i, i < 6 → p + 8 ≤ 45 + 8 * i ∨ 45 + 8 * i + 8 ≤ p ∨ (p = 45 + 8 * i ∧ σ 10 i = t)) ∧ (0 ≤ t ∧ t ≤ 1999) ∧ (σ 33 6 = (zcnt (fun j => decide (σ 2 j = 0)) (σ 1 0).toNat : Int) ∧ zStand (zSv σ 1) (σ 44) (zcnt (fun j => decide (σ 2 j = 0)) (σ 1 0).toNat))
/-- a moment that is filled -/
def zFilled (σ : zSt) (p : Nat) : Prop := (∀ k, k < (σ 1 0).toNat → zMq σ p k) ∧ (∀ i, i < (σ 33 6).toNat → σ (p + 7) (σ 44 i).toNat = zlt (σ (p + 6)) (σ 44) i * σ (p + 6) (σ 44 i).toNat / 100) ∧ (∀ k, k < (σ 1 0).toNat → σ 2 k ≠ 0 → σ (p + 7) k = 0) ∧ σ p 1 = zlt (σ (p + 6)) (σ 44) (σ 33 6).toNat
def zFillP (σ σ' : zSt) (p : Nat) (t : Int) : Prop := (∀ a, (a < p ∨ p + 8 ≤ a) → σ' a = σ a) ∧ σ' p 0 = t ∧ zMr σ' p ∧ zFilled σ' p
/-- filled up to clip i -/
def zFi (σ τ : zSt) (p : Nat) (t : Int) (i : Nat) : Prop := (∀ a, (a < p ∨ p + 8 ≤ a) → τ a = σ a) ∧ τ p 0 = t ∧ zMr τ p ∧ (∀ k, k < i → zMq τ p k ∧ τ (p + 7) k = 0)
section FI
variable {σ τ : zSt} {p i : Nat} {t : Int}
theorem zFi.low (h : zFi σ τ p t i) (hp : 34 ≤ p) {a : Nat} (ha : a < 34) : τ a = σ a := h.1 a (by omega)
theorem zFi.good (h : zFi σ τ p t i) (hp : 34 ≤ p) (hg : zGood σ 1) : zGood τ 1 := zGood_eq (fun r hr => h.low hp (by omega)) hg
theorem zFi.rA (h : zFi σ τ p t i) (hs : ∀ i, i < 6 → p + 8 ≤ 45 + 8 * i ∨ 45 + 8 * i + 8 ≤ p ∨ (p = 45 + 8 * i ∧ σ 10 i = t)) (rA : ∀ j, j < 6 → zMr σ (45 + 8 * j)) : ∀ j, j < 6 → zMr τ (45 + 8 * j) := fun j hj => by
  rcases hs j hj with z | z | z
  · have := rA j hj
    unfold zMr at *
    rw [h.1 (45 + 8 * j) (by omega), h.1 (45 + 8 * j + 1) (by omega), h.1 (45 + 8 * j + 2) (by omega), h.1 (45 + 8 * j + 3) (by omega), h.1 (45 + 8 * j + 4) (by omega), h.1 (45 + 8 * j + 5) (by omega), h.1 (45 + 8 * j + 6) (by omega), h.1 (45 + 8 * j + 7) (by omega)]
    exact this
  · have := rA j hj
    unfold zMr at *
    rw [h.1 (45 + 8 * j) (by omega), h.1 (45 + 8 * j + 1) (by omega), h.1 (45 + 8 * j + 2) (by omega), h.1 (45 + 8 * j + 3) (by omega), h.1 (45 + 8 * j + 4) (by omega), h.1 (45 + 8 * j + 5) (by omega), h.1 (45 + 8 * j + 6) (by omega), h.1 (45 + 8 * j + 7) (by omega)]
    exact this
  · rw [← z.1]; exact h.2.2.1
theorem zAt_rA {σ1 : zSt} {k : Nat} (h : zAt τ σ1 p k) (r1 : zMr σ1 p) (hs : ∀ i, i < 6 → p + 8 ≤ 45 + 8 * i ∨ 45 + 8 * i + 8 ≤ p ∨ (p = 45 + 8 * i ∧ σ 10 i = t)) (rA : ∀ j, j < 6 → zMr τ (45 + 8 * j)) : ∀ j, j < 6 → zMr σ1 (45 + 8 * j) := fun j hj => by
  rcases hs j hj with z | z | z
  · have := rA j hj
    unfold zMr at *
    rw [h.1 (45 + 8 * j) (by omega), h.1 (45 + 8 * j + 1) (by omega), h.1 (45 + 8 * j + 2) (by omega), h.1 (45 + 8 * j + 3) (by omega), h.1 (45 + 8 * j + 4) (by omega), h.1 (45 + 8 * j + 5) (by omega), h.1 (45 + 8 * j + 6) (by omega), h.1 (45 + 8 * j + 7) (by omega)]
    exact this
  · have := rA j hj
    unfold zMr at *
    rw [h.1 (45 + 8 * j) (by omega), h.1 (45 + 8 * j + 1) (by omega), h.1 (45 + 8 * j + 2) (by omega), h.1 (45 + 8 * j + 3) (by omega), h.1 (45 + 8 * j + 4) (by omega), h.1 (45 + 8 * j + 5) (by omega), h.1 (45 + 8 * j + 6) (by omega), h.1 (45 + 8 * j + 7) (by omega)]
    exact this
  · rw [← z.1]; exact r1
/-- all that a step needs, and gives -/
theorem zFi_step (hP : zPreF σ p t) (h : zFi σ τ p t i) (hi : i < (σ 1 0).toNat) : zMr (zClr τ p i) p ∧ zMr (zFC (zClr τ p i) p i) p ∧ (∀ j, j < 6 → zMr (zClr τ p i) (45 + 8 * j)) ∧ zKk (zClr τ p i) i ∧ (∀ j, j < (zClr τ p i 1 8).toNat → 0 ≤ zClr τ p i 43 j ∧ zClr τ p i 43 j < 6) ∧ zGood (zClr τ p i) 1 ∧ zGood (zFC (zClr τ p i) p i) 1 ∧
    (zFC (zClr τ p i) p i (p + 1) i = 2 ∨ zFC (zClr τ p i) p i (p + 1) i = 3 → 0 ≤ zFC (zClr τ p i) p i (p + 5) i ∧ zFC (zClr τ p i) p i (p + 5) i ≤ zFC (zClr τ p i) p i 23 i) ∧ zFC (zClr τ p i) p i 23 i ≤ 1000000000 ∧ zFi σ (zStp τ p i) p t (i + 1) := by
  obtain ⟨⟨hg, rp0, rA0⟩, hor, hK, hp, hs, ht, -⟩ := hP
  have hN : (σ 1 0).toNat ≤ 12 := by have := hg.1; omega
  have hi12 : i < 12 := by omega
  have rp := h.2.2.1
  have rA := h.rA hs rA0
  have gT := h.good hp.1 hg
  have kT : zKk τ i := zKk_eq (fun a ha => h.low hp.1 ha) (hK i hi)
  have A := zClr_at τ p i
  have rc := zClr_mr rp hi12
  have rAc := zAt_rA (σ := σ) (t := t) A rc hs rA
  have kc : zKk (zClr τ p i) i := zKk_eq (fun a ha => A.1 a (by omega)) kT
  have orc : ∀ j, j < (zClr τ p i 1 8).toNat → 0 ≤ zClr τ p i 43 j ∧ zClr τ p i 43 j < 6 := by
    rw [A.1 1 (by omega), A.1 43 (by omega), h.low hp.1 (a := 1) (by decide), h.1 43 (by omega)]; exact hor
  have gc : zGood (zClr τ p i) 1 := zGood_eq (fun r hr => A.1 _ (by omega)) gT
  have B := zFC_at (zClr τ p i) p i
  have gf : zGood (zFC (zClr τ p i) p i) 1 := zGood_eq (fun r hr => B.1 _ (by omega)) gc
  obtain ⟨f1, f2, f3, f4⟩ := zFC_rows hp.1 rc rAc orc hi12 kc
  have c1 : zClr τ p i (p + 1) i = 0 := by simp [zClr, zs_app, zu_app]
  have c7 : zClr τ p i (p + 7) i = 0 := by simp [zClr, zs_app, zu_app]
  have f23 : zFC (zClr τ p i) p i 23 = zClr τ p i 23 := B.1 23 (by omega)
  have f2' : zFC (zClr τ p i) p i (p + 1) i = 2 ∨ zFC (zClr τ p i) p i (p + 1) i = 3 → 0 ≤ zFC (zClr τ p i) p i (p + 5) i ∧ zFC (zClr τ p i) p i (p + 5) i ≤ zFC (zClr τ p i) p i 23 i := fun z => by rw [f23]; exact f2 z (by rw [c1]; decide)
  have C := zStp_at τ p i
  have tr : ∀ j, j ≤ i → -1 ≤ τ 3 j ∧ τ 3 j < j := fun j hj => by rw [h.low hp.1 (a := 3) (by decide)]; exact (hK j (by omega)).1
  have hsT : ∀ i, i < 6 → p + 8 ≤ 45 + 8 * i ∨ 45 + 8 * i + 8 ≤ p ∨ (p = 45 + 8 * i ∧ τ 10 i = τ p 0) := by rw [h.low hp.1 (a := 10) (by decide), h.2.1]; exact hs
  have orT : ∀ j, j < (τ 1 8).toNat → 0 ≤ τ 43 j ∧ τ 43 j < 6 := by rw [h.low hp.1 (a := 1) (by decide), h.1 43 (by omega)]; exact hor
  have opT : ∀ j, j < (σ 1 0).toNat → τ 26 j = 0 ∨ 0 ≤ τ 3 j := fun j hj => by
    rw [h.low hp.1 (a := 26) (by decide), h.low hp.1 (a := 3) (by decide)]
    rcases (hK j hj).2.1 with z | z
    · exact Or.inl z
    · exact Or.inr z.2.1
  have mq := zStp_mq hp hsT tr orT (opT i hi)
  refine ⟨rc, f1, rAc, kc, orc, gc, gf, f2', by rw [f23]; exact kc.2.2.2.1.2, ⟨fun a ha => by rw [C.1 a (by omega)]; exact h.1 a ha, by rw [C.1 p (by omega)]; exact h.2.1, ?_, fun k hk => ?_⟩⟩
  · -- bounds
    have g3 : zFC (zClr τ p i) p i 3 = zClr τ p i 3 := B.1 3 (by omega)
    have D : zAt (zFC (zClr τ p i) p i) (zStp τ p i) p i := zAt.rf.put (by decide) (by decide)
    refine zMr_put f1 D ?_
    have fi := f1.2 i hi12
    have rr : ∀ r, r ≠ 6 → zStp τ p i (p + r) = zFC (zClr τ p i) p i (p + r) := fun r hr => zs_other (by omega)
    rw [rr 1 (by decide), rr 2 (by decide), rr 3 (by decide), rr 4 (by decide), rr 5 (by decide), rr 7 (by decide)]
    refine ⟨fi.1, fi.2.1, fi.2.2.1, fi.2.2.2.1, fi.2.2.2.2.1, ?_, fi.2.2.2.2.2.2⟩
    have r6 : zStp τ p i (p + 6) i = if zFC (zClr τ p i) p i (p + 1) i = 2 ∨ zFC (zClr τ p i) p i (p + 1) i = 3 then zStr (zFC (zClr τ p i) p i) p i else 0 := zs_eq _ _ _ _
    rw [r6]
    split
    · next z =>
      have m7 := gf.2.2.1 (9 * i + 7) (by omega)
      have m8 := gf.2.2.1 (9 * i + 8) (by omega)
      exact zStr_in hp.1 (f2' z) m7.1 m8.1 (fun j hj => (f1.2 j hj).2.2.2.2.2.1) (gf.2.1 i hi12).2.1
    · omega
  · by_cases e : k = i
    · subst e
      refine ⟨mq, ?_⟩
      show zs _ (p + 6) k _ (p + 7) k = 0
      rw [zs_other (by omega), f4, c7]
    · obtain ⟨a, b⟩ := h.2.2.2 k (by omega)
      refine ⟨zMq_ag C.ag hp hsT (fun j hj => tr j (by omega)) orT (by omega) (opT k (by omega)) a, ?_⟩
      rw [C.2 7 (by decide) (by decide) k e]; exact b
end FI
theorem zFi_end {σ τ σ1 : zSt} {p : Nat} {t : Int} (hP : zPreF σ p t) (h : zFi σ τ p t (σ 1 0).toNat) (hs : zShare τ σ1 p) : zFillP σ σ1 p t := by
  obtain ⟨⟨hg, rp0, rA0⟩, hor, hK, hp, hse, ht, hst⟩ := hP
  obtain ⟨ρ, ⟨s1, s2, s3⟩, rfl⟩ := hs
  have hN : (σ 1 0).toNat ≤ 12 := by have := hg.1; omega
  have z33 : τ 33 = σ 33 := h.low hp.1 (by decide)
  have z44 : τ 44 = σ 44 := h.1 44 (by omega)
  have z2 : τ 2 = σ 2 := h.low hp.1 (by decide)
  have z1 : τ 1 = σ 1 := h.low hp.1 (by decide)
  have zc := zcnt_le (fun j => decide (σ 2 j = 0)) (σ 1 0).toNat
  have sN : (σ 33 6).toNat = zcnt (fun j => decide (σ 2 j = 0)) (σ 1 0).toNat := by omega
  have e : ∀ a, a ≠ p → a ≠ p + 7 → zs ρ p 1 (zlt (τ (p + 6)) (τ 44) (τ 33 6).toNat) a = τ a := fun a h1 h2 => by rw [zs_other h1]; exact s1 a h2
  have e7 : zs ρ p 1 (zlt (τ (p + 6)) (τ 44) (τ 33 6).toNat) (p + 7) = ρ (p + 7) := zs_other (by omega)
  have ep : ∀ j, j ≠ 1 → zs ρ p 1 (zlt (τ (p + 6)) (τ 44) (τ 33 6).toNat) p j = τ p j := fun j hj => by rw [zs_row, zu_ne hj, s1 p (by omega)]
  have AG : zAg τ (zs ρ p 1 (zlt (τ (p + 6)) (τ 44) (τ 33 6).toNat)) p (σ 1 0).toNat := ⟨fun a ha => e a (by omega) (by omega), ep 0 (by decide), fun r h1 h2 j _ => by rw [e _ (by omega) (by omega)]⟩
  have h6 : ∀ k, k < 12 → 0 ≤ τ (p + 6) k ∧ τ (p + 6) k ≤ 100 := fun k hk => (h.2.2.1.2 k hk).2.2.2.2.2.1
  have sd : ∀ j, j < (σ 33 6).toNat → 0 ≤ τ 44 j ∧ τ 44 j < 12 := fun j hj => by
    rw [z44]
    rw [sN] at hj
    have := hst.2 j hj
    have h3 : (σ 44 j).toNat < (σ 1 0).toNat := this.2.1
    omega
  have sh : ∀ j, j < (σ 33 6).toNat → 0 ≤ zlt (τ (p + 6)) (τ 44) j * τ (p + 6) (τ 44 j).toNat / 100 ∧ zlt (τ (p + 6)) (τ 44) j * τ (p + 6) (τ 44 j).toNat / 100 ≤ 100 := fun j hj => by
    have a := zlt_in h6 j (fun q hq => sd q (by omega))
    have b := sd j hj
    have c := h6 (τ 44 j).toNat (by omega)
    have c0 : 0 ≤ zlt (τ (p + 6)) (τ 44) j * τ (p + 6) (τ 44 j).toNat := Int.mul_nonneg a.1 c.1
    have c1 : zlt (τ (p + 6)) (τ 44) j * τ (p + 6) (τ 44 j).toNat ≤ 100 * 100 := Int.mul_le_mul a.2 c.2 c.1 (by omega)
    omega
  refine ⟨fun a ha => by rw [e a (by omega) (by omega)]; exact h.1 a ha, by rw [ep 0 (by decide)]; exact h.2.1, ⟨by rw [ep 0 (by decide)]; exact h.2.2.1.1, fun k hk => ?_⟩, ⟨fun k hk => ?_, fun i hi => ?_, fun k hk hl => ?_, ?_⟩⟩
  · rw [e7, e (p + 1) (by omega) (by omega), e (p + 2) (by omega) (by omega), e (p + 3) (by omega) (by omega), e (p + 4) (by omega) (by omega), e (p + 5) (by omega) (by omega), e (p + 6) (by omega) (by omega)]
    have b := h.2.2.1.2 k hk
    refine ⟨b.1, b.2.1, b.2.2.1, b.2.2.2.1, b.2.2.2.2.1, b.2.2.2.2.2.1, ?_⟩
    by_cases q : ∃ j, j < (τ 33 6).toNat ∧ (τ 44 j).toNat = k
    · obtain ⟨j, q1, q2⟩ := q
      rw [← q2, s2 j q1]
      rw [z33] at q1
      exact sh j q1
    · rw [s3 k (fun j hj e => q ⟨j, hj, e⟩)]
      exact b.2.2.2.2.2.2
  · rw [e 1 (by omega) (by omega), z1] at hk
    have tr : ∀ j, j < (σ 1 0).toNat → -1 ≤ τ 3 j ∧ τ 3 j < j := fun j hj => by rw [h.low hp.1 (a := 3) (by decide)]; exact (hK j hj).1
    have op : τ 26 k = 0 ∨ 0 ≤ τ 3 k := by
      rw [h.low hp.1 (a := 26) (by decide), h.low hp.1 (a := 3) (by decide)]
      rcases (hK k hk).2.1 with z | z
      · exact Or.inl z
      · exact Or.inr z.2.1
    exact zMq_ag AG hp (by rw [h.low hp.1 (a := 10) (by decide), h.2.1]; exact hse) tr (by rw [z1, h.1 43 (by omega)]; exact hor) hk op (h.2.2.2 k hk).1
  · rw [e 33 (by omega) (by omega)] at hi
    rw [e7, e 44 (by omega) (by omega), e (p + 6) (by omega) (by omega)]
    exact s2 i hi
  · rw [e 1 (by omega) (by omega), z1] at hk
    rw [e 2 (by omega) (by omega), z2] at hl
    rw [e7, s3 k (fun j hj q => ?_)]
    · exact (h.2.2.2 k hk).2
    · rw [z33, sN] at hj
      have w := (hst.2 j hj).2.2.1
      rw [z44] at q
      rw [q] at w
      exact hl w
  · rw [zs_eq, e (p + 6) (by omega) (by omega), e 44 (by omega) (by omega), e 33 (by omega) (by omega)]
theorem w_Sg_fill {G : zG} {X : zX} {n : Nat} {σ : zSt} {p : Nat} {t : Int} (hn : 189 ≤ n) (hP : zMo SH p) (hF : zPreF σ p t) : ∀ (m : Nat) (i : Nat) (x3 : Int) (τ : zSt), x3 = (i : Int) → zFi σ τ p t i → i ≤ (σ 1 0).toNat → (σ 1 0).toNat < i + m → Go G X m_Sg_fill (3, 0, 0, 0, 0) n SH τ 7 [(0, vr G 33), (1, vr G p), (2, vi t), (3, vi x3)] [] (zV n SH (fun σ' => zFillP σ σ' p t)) := by
  intro m
  induction m with
  | zero => intro i x3 τ e3 ht hi hm; exact absurd hm (by omega)
  | succ m ih =>
    intro i x3 τ e3 ht hi hm
    have hp := hP.1
    obtain ⟨⟨hg, rp0, rA0⟩, hor, hK, hpp, hs, htt, hst⟩ := id hF
    have hc : 0 ≤ σ 1 0 ∧ σ 1 0 ≤ 12 := ⟨hg.1.1, hg.1.2.1⟩
    have s0 : τ 1 0 = σ 1 0 := by rw [ht.low hpp.1 (a := 1) (by decide)]
    subst e3
    refine g_iload_n (i := 3) (by decide +kernel) rfl ?_
    refine g_aload_n (i := 0) (by decide +kernel) rfl ?_
    refine g_getr f_Sg_29 (by decide +kernel) (by omega) rfl rfl ?_
    refine g_geti f_Sg_80 (by decide +kernel) (by omega) rfl rfl ?_
    refine g_icmp_ge (off := 44) (tgt := 59) (by decide +kernel) (by decide) ⟨by omega, by omega⟩ ⟨by omega, by omega⟩ (fun h15 => ?_) (fun h15 => ?_)
    · refine g_aload_n (i := 0) (by decide +kernel) rfl ?_
      refine g_aload_n (i := 1) (by decide +kernel) rfl ?_
      have en : i = (σ 1 0).toNat := by omega
      subst en
      have z33 : τ 33 = σ 33 := ht.low hpp.1 (by decide)
      have z44 : τ 44 = σ 44 := ht.1 44 (by omega)
      have zc := zcnt_le (fun j => decide (σ 2 j = 0)) (σ 1 0).toNat
      have sN : (σ 33 6).toNat = zcnt (fun j => decide (σ 2 j = 0)) (σ 1 0).toNat := by omega
      have sd : ∀ j, j < (τ 33 6).toNat → 0 ≤ τ 44 j ∧ τ 44 j < 12 := fun j hj => by
        rw [z33, sN] at hj
        rw [z44]
        have := hst.2 j hj
        have h3 : (σ 44 j).toNat < (σ 1 0).toNat := this.2.1
        omega
      refine g_cVV (st := []) (c_Sg_shareLight hn hP hpp.1 ⟨by omega, by omega⟩ (fun k hk => (ht.2.2.1.2 k hk).2.2.2.2.2.1) (by rw [z33]; omega) sd (fun a b ha hb => by rw [z33, sN] at ha hb; rw [z44]; exact hst.2.inj a b ha hb)) k_Sg_shareLight l_Sg_120 (by decide +kernel) (by omega) rfl rfl rfl rfl (Nat.le_of_ble_eq_true rfl) (by decide) ⟨by decide, by decide⟩ ?_
      rintro σ1 hsh
      refine g_retV (by decide +kernel) rfl ⟨by decide, by decide⟩ ?_
      exact zFi_end hF ht hsh
    · obtain ⟨q1, q2, q3, q4, q5, q6, q7, q8, q9, q10⟩ := zFi_step hF ht (by omega)
      obtain ⟨w1, w2, w3, w4, w5, w6, w7⟩ := id q4
      have w0 : zClr τ p i p 0 = t := by rw [(zClr_at τ p i).1 p (by omega)]; exact ht.2.1
      have q2i := q2.2 i (by omega)
      refine g_aload_n (i := 1) (by decide +kernel) rfl ?_
      refine g_iload_n (i := 3) (by decide +kernel) rfl ?_
      refine g_cVV (st := []) (c_Mo_clear (k := i) hn hP (by omega)) k_Mo_clear l_Sg_102 (by decide +kernel) (by omega) hP.a0 rfl rfl rfl (Nat.le_of_ble_eq_true rfl) (by decide) ⟨by decide, by decide⟩ ?_
      rintro σ1 hσ
      have hσ : σ1 = zClr τ p i := hσ
      subst hσ
      refine g_aload_n (i := 0) (by decide +kernel) rfl ?_
      refine g_aload_n (i := 1) (by decide +kernel) rfl ?_
      refine g_iload_n (i := 3) (by decide +kernel) rfl ?_
      refine g_cVV (st := []) (c_Sg_fillClip hn hP hpp.1 (by omega) q6 q1 q3 q5 ⟨w1.1, by omega⟩ w2 w3 w4 w5 w6 (by rw [w0]; exact htt)) k_Sg_fillClip l_Sg_106 (by decide +kernel) (by omega) rfl rfl rfl rfl (Nat.le_of_ble_eq_true rfl) (by decide) ⟨by decide, by decide⟩ ?_
      rintro σ1 hσ
      obtain rfl := hσ.symm
      refine g_aload_n (i := 1) (by decide +kernel) rfl ?_
      refine g_getr f_Sg_109 (by decide +kernel) (by omega) hP.a0 rfl ?_
      refine g_iload_n (i := 3) (by decide +kernel) rfl ?_
      refine g_aload_n (i := 1) (by decide +kernel) rfl ?_
      refine g_iload_n (i := 3) (by decide +kernel) rfl ?_
      refine g_cVI (st := [vi (i : Int), vr G (p + 6)]) (c_Mo_runs (k := i) hn hP (by omega) q2i.1) k_Mo_runs l_Sg_112 (by decide +kernel) (by omega) hP.a0 rfl rfl rfl (Nat.le_of_ble_eq_true rfl) (by decide) ⟨by decide, by decide⟩ ?_
      rintro a σ1 ⟨ea, hσ⟩
      obtain rfl := hσ.symm
      subst ea
      refine g_if_eq (off := 12) (tgt := 51) (by decide +kernel) (by decide) zbr (fun h39 => ?_) (fun h39 => ?_)
      · have h39 := zb0.mp h39
        refine g_iconst (a := 0) (by decide +kernel) ?_
        refine g_iast (j := i) (by decide +kernel) (by omega) hP.a6 rfl (by omega) (by decide) ?_
        refine g_iinc (i := 3) (b := 1) (L' := [(0, _), (1, _), (2, _), (3, _)]) (by decide +kernel) rfl rfl rfl ?_
        refine g_goto (off := -49) (tgt := 7) (by decide +kernel) (by decide) ?_
        refine g_eq (ih (i + 1) _ _ (by push_cast; rfl) q10 (by omega) (by omega)) ?_ rfl rfl
        unfold zStp
        first
          | (have hz : zFC (zClr τ p i) p i (p + 1) i = 2 ∨ zFC (zClr τ p i) p i (p + 1) i = 3 := h39
             rw [if_pos hz])
          | rw [if_neg h39]
      · have h39 := zb1.mp h39
        refine g_aload_n (i := 0) (by decide +kernel) rfl ?_
        refine g_aload_n (i := 1) (by decide +kernel) rfl ?_
        refine g_iload_n (i := 3) (by decide +kernel) rfl ?_
        refine g_cVI (st := [vi (i : Int), vr G (p + 6)]) (c_Sg_strengthOf (k := i) hn hP (by omega) (by omega) q7 (q8 h39) q9 (fun j hj => (q2.2 j hj).2.2.2.2.2.1)) k_Sg_strengthOf l_Sg_116 (by decide +kernel) (by omega) rfl rfl rfl rfl (Nat.le_of_ble_eq_true rfl) (by decide) ⟨by decide, by decide⟩ ?_
        rintro a σ1 ⟨ea, hσ⟩
        obtain rfl := hσ.symm
        subst ea
        refine g_goto (off := 4) (tgt := 52) (by decide +kernel) (by decide) ?_
        refine g_iast (j := i) (by decide +kernel) (by omega) hP.a6 rfl (by omega) (by decide) ?_
        refine g_iinc (i := 3) (b := 1) (L' := [(0, _), (1, _), (2, _), (3, _)]) (by decide +kernel) rfl rfl rfl ?_
        refine g_goto (off := -49) (tgt := 7) (by decide +kernel) (by decide) ?_
        refine g_eq (ih (i + 1) _ _ (by push_cast; rfl) q10 (by omega) (by omega)) ?_ rfl rfl
        unfold zStp
        first
          | (have hz : zFC (zClr τ p i) p i (p + 1) i = 2 ∨ zFC (zClr τ p i) p i (p + 1) i = 3 := h39
             rw [if_pos hz])
          | rw [if_neg h39]
theorem c_Sg_fill {G : zG} {n : Nat} {σ : zSt} {p : Nat} {t : Int} (hn : 189 ≤ n) (hP : zMo SH p) (hF : zPreF σ p t) : Gm G y_Sg_fill m_Sg_fill 3 0 0 [vr G 33, vr G p, vi t] n SH σ (zV n SH (fun σ' => zFillP σ σ' p t)) := by
  refine g_enter (L := [(0, _), (1, _), (2, _)]) (by decide) rfl rfl rfl (Nat.le_of_ble_eq_true rfl) (fun X => ?_)
  have hp := hP.1
  obtain ⟨⟨hg, rp0, rA0⟩, hor, hK, hpp, hs, htt, hst⟩ := id hF
  have hc : 0 ≤ σ 1 0 ∧ σ 1 0 ≤ 12 := ⟨hg.1.1, hg.1.2.1⟩
  refine g_aload_n (i := 1) (by decide +kernel) rfl ?_
  refine g_iload_n (i := 2) (by decide +kernel) rfl ?_
  refine g_puti f_Sg_43 (by decide +kernel) (by omega) hP.a0 rfl ?_
  refine g_iconst (a := 0) (by decide +kernel) ?_
  refine g_istore_n (i := 3) (L' := [(0, _), (1, _), (2, _), (3, _)]) (by decide +kernel) rfl rfl ?_
  refine w_Sg_fill hn hP hF 13 0 _ _ rfl ⟨fun a ha => zs_other (by omega), zs_eq _ _ _ _, ⟨by rw [zs_eq]; exact ⟨by omega, by omega⟩, fun k hk => ?_⟩, fun k hk => by omega⟩ (by omega) (by omega)
  rw [zs_other (by omega), zs_other (by omega), zs_other (by omega), zs_other (by omega), zs_other (by omega), zs_other (by omega), zs_other (by omega)]
  exact rp0.2 k hk
end
section
/-! the presses' order -/
theorem zpos_spec {tm a : Nat → Int} {t : Int} : ∀ p, (∀ i j, i < j → j < p → tm (a i).toNat ≤ tm (a j).toNat) → (∀ j, j < zpos tm a t p → tm (a j).toNat ≤ t) ∧ ∀ j, zpos tm a t p ≤ j → j < p → t < tm (a j).toNat
  | 0, _ => ⟨fun j hj => absurd hj (Nat.not_lt_zero j), fun j _ h => absurd h (Nat.not_lt_zero j)⟩
  | p + 1, hs => by
    have ih := zpos_spec (t := t) p (fun i j h1 h2 => hs i j h1 (by omega))
    rw [zpos_s]
    split
    · next z =>
      refine ⟨ih.1, fun j h1 h2 => ?_⟩
      rcases Nat.lt_or_ge j p with y | y
      · exact ih.2 j h1 y
      · rw [show j = p by omega]; exact z
    · next z =>
      refine ⟨fun j hj => ?_, fun j h1 h2 => by omega⟩
      rcases Nat.lt_or_ge j p with y | y
      · have := hs j p y (by omega); omega
      · rw [show j = p by omega]; omega
theorem zord_sorted (tm : Nat → Int) : ∀ n i j, i < j → j < n → tm (zord tm n i).toNat ≤ tm (zord tm n j).toNat
  | 0, i, j, _, h => by omega
  | n + 1, i, j, h1, h2 => by
    have ih := zord_sorted tm n
    obtain ⟨a, b⟩ := zpos_spec (tm := tm) (a := zord tm n) (t := tm n) n (fun i j x y => ih i j x y)
    have hp := zpos_le tm (zord tm n) (tm n) n
    have tn : ((n : Nat) : Int).toNat = n := Int.toNat_natCast n
    rw [zord_s, zord_s]
    by_cases i1 : i < zpos tm (zord tm n) (tm n) n
    · rw [if_pos i1]
      by_cases j1 : j < zpos tm (zord tm n) (tm n) n
      · rw [if_pos j1]; exact ih i j h1 (by omega)
      · rw [if_neg j1]
        by_cases j2 : j = zpos tm (zord tm n) (tm n) n
        · rw [if_pos j2, tn]; exact a i i1
        · rw [if_neg j2]
          have x := a i i1
          have y := b (j - 1) (by omega) (by omega)
          omega
    · rw [if_neg i1, if_neg (show ¬ j < zpos tm (zord tm n) (tm n) n by omega), if_neg (show ¬ j = zpos tm (zord tm n) (tm n) n by omega)]
      by_cases i2 : i = zpos tm (zord tm n) (tm n) n
      · rw [if_pos i2, tn]
        have y := b (j - 1) (by omega) (by omega)
        omega
      · rw [if_neg i2]; exact ih (i - 1) (j - 1) (by omega) (by omega)
theorem zord_inj (tm : Nat → Int) : ∀ n i j, i < n → j < n → zord tm n i = zord tm n j → i = j
  | 0, i, j, h, _ => by omega
  | n + 1, i, j, h1, h2 => by
    have ih := zord_inj tm n
    have hp := zpos_le tm (zord tm n) (tm n) n
    rw [zord_s, zord_s]
    have lt : ∀ i, i < n → zord tm n i < n := fun i hi => (zord_in tm n i hi).2
    intro e
    by_cases i1 : i < zpos tm (zord tm n) (tm n) n
    · rw [if_pos i1] at e
      by_cases j1 : j < zpos tm (zord tm n) (tm n) n
      · rw [if_pos j1] at e; exact ih i j (by omega) (by omega) e
      · rw [if_neg j1] at e
        by_cases j2 : j = zpos tm (zord tm n) (tm n) n
        · rw [if_pos j2] at e; have := lt i (by omega); omega
        · rw [if_neg j2] at e; have := ih i (j - 1) (by omega) (by omega) e; omega
    · rw [if_neg i1] at e
      by_cases i2 : i = zpos tm (zord tm n) (tm n) n
      · rw [if_pos i2] at e
        by_cases j1 : j < zpos tm (zord tm n) (tm n) n
        · rw [if_pos j1] at e; have := lt j (by omega); omega
        · rw [if_neg j1] at e
          by_cases j2 : j = zpos tm (zord tm n) (tm n) n
          · omega
          · rw [if_neg j2] at e; have := lt (j - 1) (by omega); omega
      · rw [if_neg i2] at e
        by_cases j1 : j < zpos tm (zord tm n) (tm n) n
        · rw [if_pos j1] at e; have := ih (i - 1) j (by omega) (by omega) e; omega
        · rw [if_neg j1] at e
          by_cases j2 : j = zpos tm (zord tm n) (tm n) n
          · rw [if_pos j2] at e; have := lt (i - 1) (by omega); omega
          · rw [if_neg j2] at e; have := ih (i - 1) (j - 1) (by omega) (by omega) e; omega
/-! what the layout gives a moment -/
section KK
variable {S : zSt} {d r : Nat → Nat} {si ac : Nat → Int} {k : Nat}
theorem zBs_in (hv : zVal S d r) : ∀ f k, k < zN S → zBs S f k < zN S ∧ S 2 (zBs S f k) = S 2 k
  | 0, k, hk => ⟨hk, rfl⟩
  | f + 1, k, hk => by
    rw [zBs_s]
    split
    · next hb =>
      have a := (hv.2.2.1 k hk).2.2.2.2 (fun e => by rw [e] at hb; cases hb)
      have t := hv.2.1 k hk
      have hq : ((S 2 k).toNat : Int) = S 2 k := by
        have : ¬ S 2 k = -1 := fun e => by have := t.2.2.mpr e; omega
        omega
      obtain ⟨g1, g2, g3, -⟩ := hv.2.2.2.1 (S 2 k).toNat (by omega) k hk hq.symm hb
      have := zBs_in hv f (S 5 k).toNat g2
      exact ⟨this.1, by rw [this.2, g3]; omega⟩
    · exact ⟨hk, rfl⟩
theorem zBe_in (hv : zVal S d r) (h : zLay S si ac) (hk : k < zN S) : 0 ≤ zBe S ac k ∧ zBe S ac k ≤ 81000000 := by
  have m := (hv.2.2.1 k hk).1.2.2.2.2
  have t := hv.2.1 k hk
  unfold zBe
  split
  · omega
  · next e =>
    have hq : (((S 2 k).toNat : Nat) : Int) = S 2 k := by omega
    have qN : (S 2 k).toNat < zN S := by omega
    have L := zLay_from hv h (zN S - ((S 2 k).toNat + 1)) ((S 2 k).toNat + 1) (by omega)
    have c := zCS_le hv qN L
    have hA : ∀ j, j < zN S → S 2 j = (((S 2 k).toNat : Nat) : Int) → 0 ≤ ac j := fun j hj _ => (zLay_bound hv h hj).2.1
    have hF : ∀ j, j < zN S → S 2 j = (((S 2 k).toNat : Nat) : Int) → 0 ≤ zF S ac j := fun j hj e => by
      have a := (hv.2.2.1 j hj).1.2.2.2.2
      have b := hA j hj e
      unfold zF; omega
    split
    · have e1 := zEn_0 hF (S 3 k).toNat
      have e2 := zEn_le' hF (S 3 k).toNat
      omega
    · have b := zBg_le (hv.2.2.2.1 _ qN) (fun j hj => (hv.2.2.1 j hj).1.2.2.2.2.1) hA hk hq.symm
      have a := (zLay_bound hv h hk).2.1
      omega
theorem zAc_pos (hm : zMk S k) {x : Int} (h0 : 0 ≤ x) (h : 0 < zAc S x k) : 1 ≤ x := by
  obtain ⟨h1, h2, h3, h4, h5⟩ := hm
  by_cases e : x = 0
  · subst e
    have w : zAcW S 0 k = 0 := by
      unfold zAcW
      rw [Int.zero_mul, Int.zero_add]
      exact Int.ediv_eq_zero_of_lt (by omega) (by omega)
    unfold zAc at h
    rw [w] at h
    split at h <;> omega
  · omega
theorem zAc_pass (hm : zMk S k) {x s : Int} (h0 : 1 ≤ x) (s0 : 0 ≤ s) (h : s < zAc S x k) : s * S 7 (9 * k + 1) / x ≤ 1000000000 := by
  obtain ⟨h1, h2, h3, h4, h5⟩ := hm
  have w : s < zAcW S x k := by
    unfold zAc at h
    split at h <;> omega
  have a : (s + 1) * S 7 (9 * k + 1) ≤ x * S 7 (9 * k + 2) + S 7 (9 * k + 1) - 1 := by
    have := (Int.le_ediv_iff_mul_le (show 0 < S 7 (9 * k + 1) by omega)).mp (show s + 1 ≤ zAcW S x k by omega)
    exact this
  rw [Int.add_mul, Int.one_mul] at a
  have b : x * S 7 (9 * k + 2) ≤ x * 9 := Int.mul_le_mul_of_nonneg_left h3.2 (by omega)
  have c : s * S 7 (9 * k + 1) / x ≤ 9 := by
    apply Int.ediv_le_of_le_mul (by omega)
    rw [Int.mul_comm 9 x]
    omega
  omega
end KK
/-- measured, so each clip is as a moment asks it -/
theorem zMeas_kk {σ σ' : zSt} {d r : Nat → Nat} (hv : zVal (zSv σ 1) d r) (hg : zGood σ 1) (h : zMeas σ σ' 1 21) : ∀ k, k < (σ 1 0).toNat → zKk σ' k := by
  intro k hk
  obtain ⟨h1, h2, h3, h4, h5, h6⟩ := h
  have s3 : σ' 3 = σ 3 := h1 3 (by omega)
  have s8 : σ' 8 = σ 8 := h1 8 (by omega)
  have b := zLay_bound hv h2 hk
  have a := h3 k hk
  have t : σ 3 k < k ∧ -1 ≤ σ 3 k ∧ _ := hv.2.1 k hk
  have mk := (hv.2.2.1 k hk).1
  have bb := zBs_in hv 12 k hk
  have hN : zN (zSv σ 1) ≤ 12 := hv.1.1
  have be := zBe_in hv h2 hk
  have l := h2 k hk
  unfold zKk
  rw [s3, s8]
  refine ⟨⟨t.2.1, t.1⟩, ?_, ?_, ⟨b.2.1, by have := b.2.2; show σ' (21 + 2) k ≤ _; omega⟩, fun z => ⟨?_, by have := b.1.2; show σ' (21 + 1) k ≤ _; omega⟩, mk.2.1, fun s s0 s1 => ?_⟩
  · have a5 : σ' 26 k = if zOk (zSv σ 1) k = true then 1 else 0 := a.2.2
    have a4 : σ' 25 k = (zBs (zSv σ 1) 12 k : Int) := a.2.1
    rw [a5, a4]
    cases ho : zOk (zSv σ 1) k with
    | false => exact Or.inl rfl
    | true =>
      refine Or.inr ⟨rfl, ?_, by omega, by omega⟩
      unfold zOk at ho
      split at ho
      · cases ho
      · next e => have e : ¬ σ 3 k = -1 := e; omega
  · have a3 : σ' 24 k = zBe (zSv σ 1) (σ' (21 + 2)) k := a.1
    rw [a3]; omega
  · have l2 : σ' 23 k = zAc (zSv σ 1) (σ' (21 + 1) k) k := l.2
    rw [l2] at z
    exact zAc_pos mk b.1.1 z
  · have l2 : σ' 23 k = zAc (zSv σ 1) (σ' (21 + 1) k) k := l.2
    rw [l2] at s1
    exact zAc_pass mk (zAc_pos mk b.1.1 (Int.lt_of_le_of_lt s0 s1)) s0 s1
end
section
/-- a filled moment stays filled while what it asks stays -/
def zKp (σ σ' : zSt) (p : Nat) : Prop := (∀ a, a < 33 → σ' a = σ a) ∧ σ' 33 6 = σ 33 6 ∧ σ' 43 = σ 43 ∧ σ' 44 = σ 44 ∧ (∀ r, r ≤ 7 → σ' (p + r) = σ (p + r)) ∧ ∀ i, i < (σ 1 8).toNat → σ 10 (σ 43 i).toNat < σ p 0 → ∀ r, 1 ≤ r → r ≤ 3 → σ' (45 + 8 * (σ 43 i).toNat + r) = σ (45 + 8 * (σ 43 i).toNat + r)
theorem zKp_bk {σ σ' : zSt} {p k : Nat} (h : zKp σ σ' p) : zBk σ' p k = zBk σ p k := by
  obtain ⟨h1, h2, h3, h4, h5, h6⟩ := h
  have p0 : σ' p = σ p := h5 0 (by decide)
  have th : ∀ j, zTh σ' p j = zTh σ p j := fun j => by unfold zTh; rw [h1 10 (by decide), p0]
  have row : ∀ i, i < (σ 1 8).toNat → σ 10 (σ 43 i).toNat ≤ σ p 0 → ∀ r, 1 ≤ r → r ≤ 3 → σ' (zTh σ p (σ 43 i).toNat + r) = σ (zTh σ p (σ 43 i).toNat + r) := fun i hi ht r r1 r2 => by
    unfold zTh
    split
    · exact h5 r (by omega)
    · exact h6 i hi (by omega) r r1 r2
  have bp : ∀ i, i < (σ 1 8).toNat → zbp σ' p k i = zbp σ p k i := fun i hi => by
    unfold zbp
    rw [h3, h1 9 (by decide), h1 7 (by decide), h1 25 (by decide), h1 10 (by decide), h1 3 (by decide), p0, h5 3 (by decide), th]
    by_cases z : σ 10 (σ 43 i).toNat ≤ σ p 0
    · rw [row i hi z 1 (by decide) (by decide), row i hi z 3 (by decide) (by decide)]
    · rw [decide_eq_false (fun q => z q.2.1), decide_eq_false (fun q => z q.2.1)]
      rfl
  unfold zBk
  rw [h1 26 (by decide), h1 24 (by decide)]
  split
  · rfl
  · unfold zBP
    rw [h1 1 (by decide), zfst_congr (q := zbp σ p k) bp]
    rcases zfst_spec (p := zbp σ p k) (n := (σ 1 8).toNat) with ⟨e, -⟩ | ⟨i, e1, e2, e3, -⟩
    · rw [if_pos e, if_pos e]
    · rw [if_neg (by omega), if_neg (by omega), e1, Int.toNat_natCast, h3, h1 3 (by decide), h1 24 (by decide), th]
      have z : σ 10 (σ 43 i).toNat ≤ σ p 0 := by
        unfold zbp at e3
        rw [Bool.and_eq_true] at e3
        exact (of_decide_eq_true e3.1).2.1
      rw [row i e2 z 2 (by decide) (by decide)]
theorem zKp_mq {σ σ' : zSt} {p k : Nat} (h : zKp σ σ' p) (hm : zMq σ p k) : zMq σ' p k := by
  have b := zKp_bk (k := k) h
  obtain ⟨h1, h2, h3, h4, h5, h6⟩ := h
  have p0 : σ' p = σ p := h5 0 (by decide)
  unfold zMq zOff zIdle zRun zStr zOwn zTa at *
  rw [b, p0, h1 3 (by decide), h1 8 (by decide), h1 22 (by decide), h1 23 (by decide), h5 1 (by decide), h5 2 (by decide), h5 3 (by decide), h5 4 (by decide), h5 5 (by decide), h5 6 (by decide)]
  exact hm
theorem zKp_filled {σ σ' : zSt} {p : Nat} (h : zKp σ σ' p) (hm : zFilled σ p) : zFilled σ' p := by
  obtain ⟨m1, m2, m3, m4⟩ := hm
  have mq : ∀ k, k < (σ 1 0).toNat → zMq σ' p k := fun k hk => zKp_mq h (m1 k hk)
  obtain ⟨h1, h2, h3, h4, h5, h6⟩ := h
  have p0 : σ' p = σ p := h5 0 (by decide)
  unfold zFilled
  rw [h1 1 (by decide), h1 2 (by decide), h2, h4, h5 6 (by decide), h5 7 (by decide), p0]
  exact ⟨mq, m2, m3, m4⟩
/-- from when on nothing changes -/
def zsett (l : Int) (tm : Nat → Int) : Nat → Int
  | 0 => l
  | i + 1 => max (zsett l tm i) (tm i)
theorem zsett_s (l : Int) (tm : Nat → Int) (i : Nat) : zsett l tm (i + 1) = max (zsett l tm i) (tm i) := rfl
theorem zsett_in {l : Int} {tm : Nat → Int} (h : ∀ i, 0 ≤ tm i ∧ tm i ≤ 1999) (hl : 0 ≤ l) : ∀ i, l ≤ zsett l tm i ∧ zsett l tm i ≤ max l 1999
  | 0 => ⟨Int.le_refl l, by show l ≤ _; omega⟩
  | i + 1 => by
    have a := zsett_in h hl i
    have b := h i
    rw [zsett_s]; omega
/-- THE STAGE AS IT STANDS behind prepare and at -/
def zLayd (σ : zSt) : Prop := zLay (zSv σ 1) (σ 22) (σ 23) ∧ (∀ k, k < (σ 1 0).toNat → σ 24 k = zBe (zSv σ 1) (σ 23) k ∧ σ 25 k = (zBs (zSv σ 1) 12 k : Int) ∧ σ 26 k = (if zOk (zSv σ 1) k = true then 1 else 0)) ∧ (∀ k, k < 12 → σ 26 k = 0 ∨ σ 26 k = 1) ∧ σ 21 5 = (if σ 1 0 = 0 then 0 else σ 7 0 + σ 23 0)
def zStood (σ : zSt) : Prop := σ 33 6 = (zcnt (fun j => decide (σ 2 j = 0)) (σ 1 0).toNat : Int) ∧ zStand (zSv σ 1) (σ 44) (zcnt (fun j => decide (σ 2 j = 0)) (σ 1 0).toNat)
def zOrd (σ : zSt) : Prop := ∀ j : Nat, (j : Int) < σ 1 8 → σ 43 j = zord (σ 10) (σ 1 8).toNat j
def zStage (σ : zSt) : Prop := zLayd σ ∧ (∀ k, k < (σ 1 0).toNat → zKk σ k) ∧ zStood σ ∧ zOrd σ ∧ (∀ i, i < (σ 1 8).toNat → σ (45 + 8 * (σ 43 i).toNat) 0 = σ 10 (σ 43 i).toNat ∧ zFilled σ (45 + 8 * (σ 43 i).toNat)) ∧ (zMr σ 34 ∧ ∀ j, j < 6 → zMr σ (45 + 8 * j)) ∧ σ 33 7 = zsett (σ 21 5) (fun i => σ 10 (σ 43 i).toNat) (σ 1 8).toNat ∧ (σ 34 0 = -1 ∨ zFilled σ 34)
theorem zOrd.in {σ : zSt} (h : zOrd σ) (hg : zGood σ 1) : ∀ i, i < (σ 1 8).toNat → 0 ≤ σ 43 i ∧ σ 43 i < 6 := fun i hi => by
  have a := h i (by omega)
  have b := zord_in (σ 10) (σ 1 8).toNat i hi
  have c : 0 ≤ σ 1 8 ∧ σ 1 8 ≤ 6 := hg.1.2.2
  omega
/-- the loop of prepare: i presses are done -/
def zPi (σ τ : zSt) (i : Nat) : Prop := (∀ a, (a < 45 ∨ 93 ≤ a) → a ≠ 33 → τ a = σ a) ∧ (∀ j, j ≠ 7 → τ 33 j = σ 33 j) ∧ τ 33 7 = zsett (σ 21 5) (fun i => σ 10 (σ 43 i).toNat) i ∧ (∀ j, j < 6 → zMr τ (45 + 8 * j)) ∧ ∀ q, q < i → τ (45 + 8 * (σ 43 q).toNat) 0 = σ 10 (σ 43 q).toNat ∧ zFilled τ (45 + 8 * (σ 43 q).toNat)
theorem zPi_pre {σ τ : zSt} {i : Nat} (hg : zGood σ 1) (hK : ∀ k, k < (σ 1 0).toNat → zKk σ k) (hs : zStood σ) (ho : zOrd σ) (h : zPi σ τ i) (hi : i < (σ 1 8).toNat) : zPreF τ (45 + 8 * (σ 43 i).toNat) (σ 10 (σ 43 i).toNat) := by
  obtain ⟨h1, h2, h3, h4, h5⟩ := h
  have o := ho.in hg i hi
  have low : ∀ a, a < 33 → τ a = σ a := fun a ha => h1 a (by omega) (by omega)
  have t10 : (0 ≤ σ 9 (σ 43 i).toNat ∧ σ 9 (σ 43 i).toNat ≤ 3) ∧ (0 ≤ σ 10 (σ 43 i).toNat ∧ σ 10 (σ 43 i).toNat ≤ 1999) := hg.2.2.2 _ (by omega)
  refine ⟨⟨zGood_eq (fun r hr => low _ (by omega)) hg, h4 _ (by omega), h4⟩, ?_, fun k hk => ?_, ⟨by omega, by omega⟩, fun q hq => ?_, t10.2, ?_⟩
  · rw [low 1 (by decide), h1 43 (by decide) (by decide)]; exact ho.in hg
  · rw [low 1 (by decide)] at hk
    have := hK k hk
    unfold zKk at *
    rw [low 3 (by decide), low 26 (by decide), low 25 (by decide), low 24 (by decide), low 23 (by decide), low 22 (by decide), low 8 (by decide)]
    exact this
  · rw [low 10 (by decide)]
    by_cases e : q = (σ 43 i).toNat
    · exact Or.inr (Or.inr ⟨by omega, by rw [e]⟩)
    · omega
  · rw [h2 6 (by decide), low 1 (by decide), low 2 (by decide), h1 44 (by decide) (by decide)]
    refine ⟨hs.1, fun q hq => ?_⟩
    have := hs.2 q hq
    unfold zpo zAh zN zSv at *
    rw [low (1 + 0) (by decide), low (1 + 1) (by decide), low (1 + 7) (by decide)]
    exact this
theorem zPi_step {σ τ τ1 : zSt} {i : Nat} (hg : zGood σ 1) (ho : zOrd σ) (h : zPi σ τ i) (hi : i < (σ 1 8).toNat) (hf : zFillP τ τ1 (45 + 8 * (σ 43 i).toNat) (σ 10 (σ 43 i).toNat)) : zPi σ (zs τ1 33 7 (zsett (σ 21 5) (fun i => σ 10 (σ 43 i).toNat) (i + 1))) (i + 1) := by
  obtain ⟨h1, h2, h3, h4, h5⟩ := h
  obtain ⟨f1, f2, f3, f4⟩ := hf
  have o := ho.in hg
  have oi := o i hi
  have c : 0 ≤ σ 1 8 ∧ σ 1 8 ≤ 6 := hg.1.2.2
  -- a moment that isn't this one is the same
  have same : ∀ j, j < 6 → j ≠ (σ 43 i).toNat → ∀ r, r ≤ 7 → zs τ1 33 7 (zsett (σ 21 5) (fun i => σ 10 (σ 43 i).toNat) (i + 1)) (45 + 8 * j + r) = τ (45 + 8 * j + r) := fun j hj hne r hr => by rw [zs_other (by omega), f1 _ (by omega)]
  have this' : ∀ r, r ≤ 7 → zs τ1 33 7 (zsett (σ 21 5) (fun i => σ 10 (σ 43 i).toNat) (i + 1)) (45 + 8 * (σ 43 i).toNat + r) = τ1 (45 + 8 * (σ 43 i).toNat + r) := fun r hr => zs_other (by omega)
  have z6 : zs τ1 33 7 (zsett (σ 21 5) (fun i => σ 10 (σ 43 i).toNat) (i + 1)) 33 6 = τ1 33 6 := by rw [zs_row, zu_ne (by decide)]
  refine ⟨fun a ha h33 => by rw [zs_other h33, f1 a (by omega)]; exact h1 a ha h33, fun j hj => by rw [zs_row, zu_ne hj, f1 33 (by omega)]; exact h2 j hj, zs_eq _ _ _ _, fun j hj => ?_, fun q hq => ?_⟩
  · by_cases e : j = (σ 43 i).toNat
    · subst e
      unfold zMr at *
      rw [this' 1 (by decide), this' 2 (by decide), this' 3 (by decide), this' 4 (by decide), this' 5 (by decide), this' 6 (by decide), this' 7 (by decide), show zs τ1 33 7 (zsett (σ 21 5) (fun i => σ 10 (σ 43 i).toNat) (i + 1)) (45 + 8 * (σ 43 i).toNat) = τ1 (45 + 8 * (σ 43 i).toNat) from this' 0 (by decide)]
      exact f3
    · have := h4 j hj
      unfold zMr at *
      rw [same j hj e 1 (by decide), same j hj e 2 (by decide), same j hj e 3 (by decide), same j hj e 4 (by decide), same j hj e 5 (by decide), same j hj e 6 (by decide), same j hj e 7 (by decide), show zs τ1 33 7 (zsett (σ 21 5) (fun i => σ 10 (σ 43 i).toNat) (i + 1)) (45 + 8 * j) = τ (45 + 8 * j) from same j hj e 0 (by decide)]
      exact this
  · by_cases e : q = i
    · subst e
      rw [show zs τ1 33 7 (zsett (σ 21 5) (fun i => σ 10 (σ 43 i).toNat) (q + 1)) (45 + 8 * (σ 43 q).toNat) = τ1 (45 + 8 * (σ 43 q).toNat) from this' 0 (by decide)]
      refine ⟨f2, zKp_filled ⟨fun a ha => zs_other (by omega), z6, zs_other (by decide), zs_other (by decide), this', fun i2 _ _ r r1 r2 => zs_other (by omega)⟩ f4⟩
    · have hq2 := h5 q (by omega)
      have oq := o q (by omega)
      have ne : (σ 43 q).toNat ≠ (σ 43 i).toNat := fun z => by
        have a := ho q (by omega)
        have b := ho i (by omega)
        exact e (zord_inj (σ 10) (σ 1 8).toNat q i (by omega) hi (by omega))
      rw [show zs τ1 33 7 (zsett (σ 21 5) (fun i => σ 10 (σ 43 i).toNat) (i + 1)) (45 + 8 * (σ 43 q).toNat) = τ (45 + 8 * (σ 43 q).toNat) from same _ (by omega) ne 0 (by decide)]
      have s43 : τ 43 = σ 43 := h1 43 (by decide) (by decide)
      have s10 : τ 10 = σ 10 := h1 10 (by decide) (by decide)
      have s1 : τ 1 = σ 1 := h1 1 (by decide) (by decide)
      refine ⟨hq2.1, zKp_filled ⟨fun a ha => by rw [zs_other (by omega), f1 a (by omega)], by rw [z6, f1 33 (by omega)], by rw [zs_other (by decide), f1 43 (by omega)], by rw [zs_other (by decide), f1 44 (by omega)], same _ (by omega) ne, fun i2 hi2 ht2 r r1 r2 => ?_⟩ hq2.2⟩
      rw [s1] at hi2
      rw [s10, s43, hq2.1] at ht2
      rw [s43]
      have o2 := o i2 hi2
      refine same _ (by omega) (fun z => ?_) r (by omega)
      rw [z] at ht2
      have so := zord_sorted (σ 10) (σ 1 8).toNat q i (by omega) hi
      rw [← ho q (by omega), ← ho i (by omega)] at so
      omega
end
section
/-! TWO SHOWS THAT SAY THE SAME -/
def zEqv (S T : zSt) : Prop := (T 0 0 = S 0 0 ∧ T 0 8 = S 0 8) ∧ (∀ k, k < zN S → ∀ r, 1 ≤ r → r ≤ 6 → T r k = S r k) ∧ (∀ k, k < zN S → ∀ w, w < 9 → T 7 (9 * k + w) = S 7 (9 * k + w)) ∧ ∀ i, i < (S 0 8).toNat → T 8 i = S 8 i ∧ T 9 i = S 9 i
section EQV
variable {S T : zSt} {d r : Nat → Nat} {ac si : Nat → Int}
theorem zEqv.of (h : ∀ r, r < 10 → T r = S r) : zEqv S T := ⟨⟨by rw [h 0 (by decide)], by rw [h 0 (by decide)]⟩, fun k _ r _ _ => by rw [h r (by omega)], fun k _ w _ => by rw [h 7 (by decide)], fun i _ => ⟨by rw [h 8 (by decide)], by rw [h 9 (by decide)]⟩⟩
theorem zEqv.n (h : zEqv S T) : zN T = zN S := by unfold zN; rw [h.1.1]
theorem zEqv.sym (h : zEqv S T) : zEqv T S := ⟨⟨h.1.1.symm, h.1.2.symm⟩, fun k hk r h1 h2 => (h.2.1 k (by rw [h.n] at hk; exact hk) r h1 h2).symm, fun k hk w hw => (h.2.2.1 k (by rw [h.n] at hk; exact hk) w hw).symm, fun i hi => by have := h.2.2.2 i (by rw [h.1.2] at hi; exact hi); exact ⟨this.1.symm, this.2.symm⟩⟩
theorem zEqv.tr {U : zSt} (h : zEqv S T) (g : zEqv T U) : zEqv S U := ⟨⟨g.1.1.trans h.1.1, g.1.2.trans h.1.2⟩, fun k hk r h1 h2 => (g.2.1 k (by rw [h.n]; exact hk) r h1 h2).trans (h.2.1 k hk r h1 h2), fun k hk w hw => (g.2.2.1 k (by rw [h.n]; exact hk) w hw).trans (h.2.2.1 k hk w hw), fun i hi => ⟨((g.2.2.2 i (by rw [h.1.2]; exact hi)).1).trans (h.2.2.2 i hi).1, ((g.2.2.2 i (by rw [h.1.2]; exact hi)).2).trans (h.2.2.2 i hi).2⟩⟩
theorem zEqv.ch (h : zEqv S T) (q p : Int) : zch T q p = zch S q p := by
  unfold zch
  rw [h.n]
  exact zfst_congr (fun k hk => by rw [h.2.1 k hk 2 (by decide) (by decide), h.2.1 k hk 3 (by decide) (by decide)])
theorem zch_lt (S : zSt) (q p : Int) : zch S q p = -1 ∨ ∃ i : Nat, zch S q p = i ∧ i < zN S ∧ S 2 i = q ∧ S 3 i = p := by
  have sp : (zch S q p = -1 ∧ ∀ k, k < zN S → decide (S 2 k = q ∧ S 3 k = p) = false) ∨ ∃ i : Nat, zch S q p = (i : Int) ∧ i < zN S ∧ decide (S 2 i = q ∧ S 3 i = p) = true ∧ ∀ k, k < i → decide (S 2 k = q ∧ S 3 k = p) = false := zfst_spec
  rcases sp with ⟨e, -⟩ | ⟨i, e1, e2, e3, -⟩
  · exact Or.inl e
  · exact Or.inr ⟨i, e1, e2, of_decide_eq_true e3⟩
theorem zEqv.en (h : zEqv S T) (q : Nat) : ∀ p, zEn T ac q p = zEn S ac q p
  | 0 => rfl
  | p + 1 => by
    rw [zEn_s, zEn_s, h.en q p, h.ch]
    rcases zch_lt S q p with e | ⟨i, e, hi, -⟩
    · rw [if_pos e, if_pos e]
    · rw [e, Int.toNat_natCast, h.2.1 i hi 6 (by decide) (by decide)]
theorem zVal.oth (hv : zVal S d r) {k : Nat} (hk : k < zN S) (hb : zby (S 4 k) = true) : 0 ≤ S 5 k ∧ (S 5 k).toNat < zN S ∧ S 2 (S 5 k).toNat = S 2 k ∧ r (S 5 k).toNat < r k := by
  have a := (hv.2.2.1 k hk).2.2.2.2 (fun e => by rw [e] at hb; cases hb)
  have t := hv.2.1 k hk
  have hq : ((S 2 k).toNat : Int) = S 2 k := by
    have : ¬ S 2 k = -1 := fun e => by have := t.2.2.mpr e; omega
    omega
  have g := hv.2.2.2.1 (S 2 k).toNat (by omega) k hk hq.symm hb
  exact ⟨g.1, g.2.1, by rw [g.2.2.1]; exact hq, g.2.2.2⟩
theorem zEqv.bs (h : zEqv S T) (hv : zVal S d r) : ∀ f k, k < zN S → zBs T f k = zBs S f k
  | 0, _, _ => rfl
  | f + 1, k, hk => by
    rw [zBs_s, zBs_s, h.2.1 k hk 4 (by decide) (by decide), h.2.1 k hk 5 (by decide) (by decide)]
    split
    · next hb => exact h.bs hv f _ (hv.oth hk hb).2.1
    · rfl
theorem zEqv.bw (h : zEqv S T) (hv : zVal S d r) : ∀ f k, k < zN S → zBw T ac f k = zBw S ac f k
  | 0, _, _ => rfl
  | f + 1, k, hk => by
    rw [zBw_s, zBw_s, h.2.1 k hk 4 (by decide) (by decide), h.2.1 k hk 5 (by decide) (by decide), h.2.1 k hk 6 (by decide) (by decide)]
    split
    · next hb => rw [h.bw hv f _ (hv.oth hk hb).2.1]
    · rfl
theorem zEqv.op (h : zEqv S T) (hv : zVal S d r) {k : Nat} (hk : k < zN S) : zOp T k = zOp S k := by
  unfold zOp
  rw [h.bs hv 12 k hk, h.2.1 _ (zBs_in hv 12 k hk).1 4 (by decide) (by decide)]
theorem zEqv.bg (h : zEqv S T) (hv : zVal S d r) {k : Nat} (hk : k < zN S) : zBg T ac k = zBg S ac k := by
  unfold zBg
  rw [h.op hv hk, h.bw hv 12 k hk, h.bs hv 12 k hk, h.2.1 _ (zBs_in hv 12 k hk).1 6 (by decide) (by decide)]
theorem zEqv.mx (h : zEqv S T) (hv : zVal S d r) (q : Nat) : ∀ i, i ≤ zN S → zMx T ac q i = zMx S ac q i
  | 0, _ => rfl
  | i + 1, hi => by
    rw [zMx_s, zMx_s, h.mx hv q i (by omega), h.op hv (show i < zN S by omega), h.bg hv (show i < zN S by omega), h.2.1 i (by omega) 2 (by decide) (by decide)]
theorem zEqv.sie (h : zEqv S T) (hv : zVal S d r) {k : Nat} (hk : k < zN S) : zSi T ac k = zSi S ac k := by
  unfold zSi
  rw [h.n, h.en, h.mx hv k _ (Nat.le_refl _), show T 7 (9 * k) = S 7 (9 * k) from h.2.2.1 k hk 0 (by decide), h.2.1 k hk 1 (by decide) (by decide)]
theorem zEqv.ace (h : zEqv S T) {k : Nat} (hk : k < zN S) (x : Int) : zAc T x k = zAc S x k := by
  unfold zAc zAcW
  rw [h.2.2.1 k hk 1 (by decide), h.2.2.1 k hk 2 (by decide), h.2.2.1 k hk 3 (by decide)]
theorem zEqv.lay (h : zEqv S T) (hv : zVal S d r) (hl : zLay S si ac) : zLay T si ac := fun k hk => by
  rw [h.n] at hk
  rw [h.sie hv hk, h.ace hk]
  exact hl k hk
theorem zEqv.kd (h : zEqv S T) (hv : zVal S d r) {k : Nat} (hk : k < zN S) (hne : ¬ S 2 k = -1) : T 1 (S 2 k).toNat = S 1 (S 2 k).toNat := by
  have t := hv.2.1 k hk
  exact h.2.1 _ (by omega) 1 (by decide) (by decide)
theorem zEqv.be (h : zEqv S T) (hv : zVal S d r) {k : Nat} (hk : k < zN S) : zBe T ac k = zBe S ac k := by
  unfold zBe
  rw [h.2.1 k hk 2 (by decide) (by decide), h.2.1 k hk 6 (by decide) (by decide), h.2.1 k hk 3 (by decide) (by decide)]
  split
  · rfl
  · next hne => rw [h.kd hv hk hne, h.en, h.bg hv hk]
theorem zEqv.ok (h : zEqv S T) (hv : zVal S d r) {k : Nat} (hk : k < zN S) : zOk T k = zOk S k := by
  unfold zOk
  rw [h.2.1 k hk 2 (by decide) (by decide)]
  split
  · rfl
  · next hne => rw [h.kd hv hk hne, h.op hv hk]
theorem zEqv.val (h : zEqv S T) (hv : zVal S d r) : zVal T d r := by
  obtain ⟨⟨v1, v2⟩, v3, v4, v5, v6, v7⟩ := hv
  have hv : zVal S d r := ⟨⟨v1, v2⟩, v3, v4, v5, v6, v7⟩
  have e := fun k hk r h1 h2 => h.2.1 k hk r h1 h2
  have m := h.2.2.1
  refine ⟨⟨by rw [h.n]; exact v1, fun k hk => ?_⟩, fun k hk => ?_, fun k hk => ?_, fun q hq => ?_, fun k hk => ?_, fun q p p' hp => ?_⟩
  · rw [h.n] at hk
    refine ⟨(v2 k hk).1, fun j hj => ?_⟩
    rw [h.n] at hj
    rw [e j hj 2 (by decide) (by decide)]
    exact (v2 k hk).2 j hj
  · rw [h.n] at hk
    rw [e k hk 2 (by decide) (by decide)]
    exact v3 k hk
  · rw [h.n] at hk
    unfold zMk
    rw [m k hk 1 (by decide), m k hk 2 (by decide), m k hk 3 (by decide), show T 7 (9 * k) = S 7 (9 * k) from m k hk 0 (by decide), e k hk 1 (by decide) (by decide), e k hk 2 (by decide) (by decide), e k hk 4 (by decide) (by decide), e k hk 6 (by decide) (by decide)]
    have a := v4 k hk
    by_cases hne : S 2 k = -1
    · have z := (v3 k hk).2.2.mpr hne
      exact ⟨a.1, a.2.1, a.2.2.1, fun q => by omega, fun q => by have := (a.2.2.2.2 q).1; omega⟩
    · rw [h.kd hv hk hne]
      exact a
  · rw [h.n] at hq
    intro j hj hj2 hb
    rw [h.n] at hj ⊢
    rw [e j hj 2 (by decide) (by decide)] at hj2
    rw [e j hj 4 (by decide) (by decide)] at hb
    have a := v5 q hq j hj hj2 hb
    rw [e j hj 5 (by decide) (by decide), e _ a.2.1 2 (by decide) (by decide)]
    exact a
  · rw [h.n] at hk
    rw [e k hk 2 (by decide) (by decide), e k hk 3 (by decide) (by decide), h.ch]
    exact v6 k hk
  · rw [h.ch, h.ch]; exact v7 q p p' hp
theorem zEqv.po (h : zEqv S T) {k : Nat} (hk : k < zN S) : zpo T k = zpo S k := by
  unfold zpo
  rw [h.n]
  exact zcnt_congr (fun j hj => by unfold zAh; rw [h.2.1 j hj 1 (by decide) (by decide), h.2.2.1 j hj 6 (by decide), h.2.2.1 k hk 6 (by decide)])
theorem zEqv.stand (h : zEqv S T) {sd : Nat → Int} {m : Nat} (hs : zStand S sd m) : zStand T sd m := fun i hi => by
  have a := hs i hi
  rw [h.n, h.2.1 _ a.2.1 1 (by decide) (by decide), h.po a.2.1]
  exact a
theorem zpos_congr {tm tm' a b : Nat → Int} {t t' : Int} (ht : t = t') : ∀ p, (∀ i, i < p → tm (a i).toNat = tm' (b i).toNat) → zpos tm a t p = zpos tm' b t' p
  | 0, _ => rfl
  | p + 1, h => by
    rw [zpos_s, zpos_s, zpos_congr ht p (fun i hi => h i (by omega)), h p (by omega), ht]
theorem zord_congr {tm tm' : Nat → Int} : ∀ n, (∀ i, i < n → tm i = tm' i) → ∀ j, j < n → zord tm n j = zord tm' n j
  | 0, _, j, hj => by omega
  | n + 1, h, j, hj => by
    have ih := zord_congr n (fun i hi => h i (by omega))
    have e : zpos tm (zord tm n) (tm n) n = zpos tm' (zord tm' n) (tm' n) n := zpos_congr (h n (by omega)) n (fun i hi => by
      rw [← ih i hi]
      have := zord_in tm n i hi
      exact h _ (by omega))
    have hp := zpos_le tm (zord tm n) (tm n) n
    rw [zord_s, zord_s, e]
    rw [e] at hp
    split
    · exact ih j (by omega)
    · split
      · rfl
      · exact ih (j - 1) (by omega)
end EQV
end
section
theorem zsett_in' {l : Int} {tm : Nat → Int} (hl : 0 ≤ l) : ∀ i, (∀ q, q < i → 0 ≤ tm q ∧ tm q ≤ 1999) → l ≤ zsett l tm i ∧ zsett l tm i ≤ max l 1999
  | 0, _ => ⟨Int.le_refl l, by show l ≤ _; omega⟩
  | i + 1, h => by
    have a := zsett_in' hl i (fun q hq => h q (by omega))
    have b := h i (by omega)
    rw [zsett_s]; omega
theorem zOrd.tm {σ : zSt} (h : zOrd σ) (hg : zGood σ 1) : ∀ i, i < (σ 1 8).toNat → 0 ≤ σ 10 (σ 43 i).toNat ∧ σ 10 (σ 43 i).toNat ≤ 1999 := fun i hi => by
  have a := h.in hg i hi
  exact (hg.2.2.2 _ (by omega)).2
theorem w_Sg_prepare {G : zG} {X : zX} {n : Nat} {σ : zSt} {Q : zSt → Prop} (hn : 189 ≤ n) (hg : zGood σ 1) (hK : ∀ k, k < (σ 1 0).toNat → zKk σ k) (hs : zStood σ) (ho : zOrd σ) (hl : 0 ≤ σ 21 5 ∧ σ 21 5 ≤ 2000000000) (kk : ∀ τ, zPi σ τ (σ 1 8).toNat → Q τ) : ∀ (m : Nat) (i : Nat) (x1 : Int) (τ : zSt), x1 = (i : Int) → zPi σ τ i → i ≤ (σ 1 8).toNat → (σ 1 8).toNat < i + m → Go G X m_Sg_prepare (4, 0, 0, 0, 0) n SH τ 40 [(0, vr G 33), (1, vi x1)] [] (zV n SH (fun σ' => Q σ')) := by
  intro m
  induction m with
  | zero => intro i x1 τ e1 ht hi hm; exact absurd hm (by omega)
  | succ m ih =>
    intro i x1 τ e1 ht hi hm
    have hc : 0 ≤ σ 1 8 ∧ σ 1 8 ≤ 6 := hg.1.2.2
    have s1 : τ 1 = σ 1 := ht.1 1 (by decide) (by decide)
    have s0 : τ 1 8 = σ 1 8 := by rw [s1]
    have s10 : τ 10 = σ 10 := ht.1 10 (by decide) (by decide)
    have s43 : τ 43 = σ 43 := ht.1 43 (by decide) (by decide)
    subst e1
    refine g_iload_n (i := 1) (by decide +kernel) rfl ?_
    refine g_aload_n (i := 0) (by decide +kernel) rfl ?_
    refine g_getr f_Sg_29 (by decide +kernel) (by omega) rfl rfl ?_
    refine g_geti f_Sg_59 (by decide +kernel) (by omega) rfl rfl ?_
    refine g_icmp_ge (off := 55) (tgt := 103) (by decide +kernel) (by decide) ⟨by omega, by omega⟩ ⟨by omega, by omega⟩ (fun h48 => ?_) (fun h48 => ?_)
    · refine g_retV (by decide +kernel) rfl ⟨by decide, by decide⟩ ?_
      rw [show i = (σ 1 8).toNat by omega] at ht
      exact kk _ ht
    · have hip : i < (σ 1 8).toNat := by omega
      have oi := ho.in hg i hip
      obtain ⟨j, ej⟩ := Int.eq_ofNat_of_zero_le oi.1
      have hj6 : j < 6 := by omega
      have ej2 : (σ 43 i).toNat = j := by omega
      have ej3 : τ 43 i = j := by rw [s43]; exact ej
      have pf : zPreF τ (45 + 8 * j) (τ 10 j) := by rw [s10, ← ej2]; exact zPi_pre hg hK hs ho ht hip
      have zt := zsett_in' hl.1 i (fun q hq => ho.tm hg q (by omega))
      have z7 := ht.2.2.1
      have tj : 0 ≤ σ 10 j ∧ σ 10 j ≤ 1999 := by have := ho.tm hg i hip; rw [ej2] at this; exact this
      refine g_aload_n (i := 0) (by decide +kernel) rfl ?_
      refine g_getr f_Sg_22 (by decide +kernel) (by omega) rfl rfl ?_
      refine g_iload_n (i := 1) (by decide +kernel) rfl ?_
      refine g_iald (j := i) (by decide +kernel) (by omega) rfl rfl (by omega) (by decide) ?_
      refine g_istore_n (i := 2) (L' := [(0, _), (1, _), (2, _)]) (by decide +kernel) rfl rfl ?_
      refine g_aload_n (i := 0) (by decide +kernel) rfl ?_
      refine g_aload_n (i := 0) (by decide +kernel) rfl ?_
      refine g_getr f_Sg_18 (by decide +kernel) (by omega) rfl rfl ?_
      refine g_iload_n (i := 2) (by decide +kernel) rfl ?_
      refine g_aald (CN := "") (j := j) (by decide +kernel) (by omega) rfl (Or.inr rfl) ej3 (by omega) (by decide) rfl ?_
      refine g_aload_n (i := 0) (by decide +kernel) rfl ?_
      refine g_getr f_Sg_29 (by decide +kernel) (by omega) rfl rfl ?_
      refine g_getr f_Sg_64 (by decide +kernel) (by omega) rfl rfl ?_
      refine g_iload_n (i := 2) (by decide +kernel) rfl ?_
      refine g_iald (j := j) (by decide +kernel) (by omega) rfl ej3 (by omega) (by decide) ?_
      refine g_cVV (st := []) (c_Sg_fill hn (mo_at j hj6) pf) k_Sg_fill l_Sg_67 (by decide +kernel) (by omega) rfl rfl rfl rfl (Nat.le_of_ble_eq_true rfl) (by decide) ⟨by decide, by decide⟩ ?_
      rintro τ1 hf
      have f33 : τ1 33 = τ 33 := hf.1 33 (by omega)
      have f10 : τ1 10 = σ 10 := by rw [hf.1 10 (by omega)]; exact s10
      have b7 : τ1 33 7 = zsett (σ 21 5) (fun i => σ 10 (σ 43 i).toNat) i := by rw [f33]; exact z7
      refine g_aload_n (i := 0) (by decide +kernel) rfl ?_
      refine g_aload_n (i := 0) (by decide +kernel) rfl ?_
      refine g_geti f_Sg_56 (by decide +kernel) (by omega) rfl rfl ?_
      refine g_aload_n (i := 0) (by decide +kernel) rfl ?_
      refine g_getr f_Sg_29 (by decide +kernel) (by omega) rfl rfl ?_
      refine g_getr f_Sg_64 (by decide +kernel) (by omega) rfl rfl ?_
      refine g_iload_n (i := 2) (by decide +kernel) rfl ?_
      refine g_iald (j := j) (by decide +kernel) (by omega) rfl ej3 (by omega) (by decide) ?_
      refine g_max ma_max_Sg_71 (by decide +kernel) ⟨by rw [b7]; omega, by rw [b7]; omega⟩ ⟨by rw [f10]; omega, by rw [f10]; omega⟩ (Nat.le_of_ble_eq_true rfl) (by decide) ⟨by decide, by decide⟩ ?_
      refine g_puti f_Sg_56 (by decide +kernel) (by omega) rfl rfl ?_
      refine g_iinc (i := 1) (b := 1) (L' := [(0, _), (1, _), (2, _)]) (by decide +kernel) rfl rfl rfl ?_
      refine g_goto (off := -60) (tgt := 40) (by decide +kernel) (by decide) ?_
      refine g_less [0, 1] rfl (g_eq (ih (i + 1) _ _ (by push_cast; rfl) (zPi_step hg ho ht hip (τ1 := τ1) (by rw [ej2, ← s10]; exact hf)) (by omega) (by omega)) ?_ rfl rfl)
      rw [b7, f10, zsett_s, ej2]
/-- what prepare leaves -/
def zPrep (σ σ' : zSt) : Prop := (∀ a, (a < 21 ∨ (27 ≤ a ∧ a < 33) ∨ 93 ≤ a) → σ' a = σ a) ∧ zStage σ'
theorem zGood_pr {σ σ' : zSt} (h : ∀ a, a < 21 → σ' a = σ a) (hg : zGood σ 1) : zGood σ' 1 := zGood_eq (fun r hr => h _ (by omega)) hg
theorem zSv_pr {σ σ' : zSt} {b : Nat} (h : ∀ r, r < 10 → σ' (b + r) = σ (b + r)) (r : Nat) (hr : r < 10) : zSv σ' b r = zSv σ b r := h r hr
theorem zPrep_run {G : zG} {X : zX} {n : Nat} {σ σ1 σb : zSt} (hn : 189 ≤ n) (hg : zGood σ 1) {d r : Nat → Nat} (hv : zVal (zSv σ 1) d r) (hM : zMr σ 34 ∧ ∀ j, j < 6 → zMr σ (45 + 8 * j)) (hm : zMeas σ σ1 1 21) (L : ∀ a, a ≠ 33 → a ≠ 34 → a ≠ 43 → a ≠ 44 → σb a = σ1 a) (h6 : σb 33 6 = (zcnt (fun j => decide (σ1 2 j = 0)) (σ1 1 0).toNat : Int)) (h44 : zStand (zSv (zs σ1 34 0 (-1)) 1) (σb 44) (zcnt (fun j => decide (σ1 2 j = 0)) (σ1 1 0).toNat)) (ho : zOrd σb) (h7 : σb 33 7 = σb 21 5) (h34 : σb 34 = zs σ1 34 0 (-1) 34) : Go G X m_Sg_prepare (4, 0, 0, 0, 0) n SH σb 40 [(0, vr G 33), (1, vi 0)] [] (zV n SH (fun σ' => zPrep σ σ')) := by
  have K1 := zMeas_kk hv hg hm
  obtain ⟨m1, m2, m3, m4, m5, m6⟩ := id hm
  have low : ∀ a, a < 21 → σb a = σ a := fun a ha => by rw [L a (by omega) (by omega) (by omega) (by omega), m1 a (by omega)]
  have lay : ∀ a, 21 ≤ a → a < 27 → σb a = σ1 a := fun a h1 h2 => L a (by omega) (by omega) (by omega) (by omega)
  have gb : zGood σb 1 := zGood_pr low hg
  have e1 : σb 1 = σ 1 := low 1 (by decide)
  have lo3 : ∀ a, a < 33 → σb a = σ1 a := fun a ha => L a (by omega) (by omega) (by omega) (by omega)
  have kb : ∀ k, k < (σb 1 0).toNat → zKk σb k := fun k hk => by
    rw [e1] at hk
    have := K1 k hk
    unfold zKk at *
    rw [lo3 3 (by decide), lo3 26 (by decide), lo3 25 (by decide), lo3 24 (by decide), lo3 23 (by decide), lo3 22 (by decide), lo3 8 (by decide)]
    exact this
  have sb : zStood σb := by
    unfold zStood
    rw [lo3 2 (by decide), lo3 1 (by decide)]
    exact ⟨h6, (zEqv.of (fun r hr => by
      show σb (1 + r) = zs σ1 34 0 (-1) (1 + r)
      rw [zs_other (by omega), lo3 _ (by omega)])).stand h44⟩
  have Lb : σb 21 5 = (if σb 1 0 = 0 then 0 else σb 7 0 + σb 23 0) := by
    rw [lay 21 (by decide) (by decide), lay 23 (by decide) (by decide), low 1 (by decide), low 7 (by decide)]
    exact m5
  have hl : 0 ≤ σb 21 5 ∧ σb 21 5 ≤ 2000000000 := by
    rw [Lb]
    split
    · omega
    · next z =>
      have c := gb.1
      have k0 := (kb 0 (by omega)).2.2.2.1
      have u0 : 0 ≤ σb 7 0 ∧ σb 7 0 ≤ 999 := (gb.2.1 0 (by decide)).2.2.2.2.2
      omega
  have mr : ∀ p, 45 ≤ p → p + 8 ≤ 93 → zMr σ p → zMr σb p := fun p h1 h2 hp => by
    have q : ∀ r, r < 8 → σb (p + r) = σ (p + r) := fun r hr => by rw [L _ (by omega) (by omega) (by omega) (by omega), m1 _ (by omega)]
    unfold zMr at *
    rw [q 1 (by decide), q 2 (by decide), q 3 (by decide), q 4 (by decide), q 5 (by decide), q 6 (by decide), q 7 (by decide), show σb p = σ p from q 0 (by decide)]
    exact hp
  have m34 : zMr σb 34 := by
    have hp := hM.1
    have q : ∀ r, 1 ≤ r → r < 8 → σb (34 + r) = σ (34 + r) := fun r h1 hr => by rw [L _ (by omega) (by omega) (by omega) (by omega), m1 _ (by omega)]
    unfold zMr at *
    rw [q 1 (by decide) (by decide), q 2 (by decide) (by decide), q 3 (by decide) (by decide), q 4 (by decide) (by decide), q 5 (by decide) (by decide), q 6 (by decide) (by decide), q 7 (by decide) (by decide), h34, zs_eq]
    exact ⟨⟨by decide, by decide⟩, hp.2⟩
  refine w_Sg_prepare hn gb kb sb ho hl (fun τ ht => ?_) 7 0 _ σb rfl ⟨fun _ _ _ => rfl, fun _ _ => rfl, h7, fun j hj => mr _ (by omega) (by omega) (hM.2 j hj), fun q hq => by omega⟩ (by omega) (by have := gb.1; omega)
  obtain ⟨t1, t2, t3, t4, t5⟩ := ht
  have tl : ∀ a, a < 33 → τ a = σb a := fun a ha => t1 a (by omega) (by omega)
  have E0 : zEqv (zSv σ 1) (zSv τ 1) := zEqv.of (fun r hr => by show τ (1 + r) = σ (1 + r); rw [tl _ (by omega), low _ (by omega)])
  have E1 : zEqv (zSv σb 1) (zSv τ 1) := zEqv.of (fun r hr => tl (1 + r) (by omega))
  refine ⟨fun a ha => ?_, ⟨?_, ?_, ?_, ?_⟩, fun k hk => ?_, ?_, ?_, ?_, ⟨?_, t4⟩, ?_, Or.inl ?_⟩
  · rw [t1 a (by omega) (by omega), L a (by omega) (by omega) (by omega) (by omega), m1 a (by omega)]
  · rw [tl 22 (by decide), tl 23 (by decide), lay 22 (by decide) (by decide), lay 23 (by decide) (by decide)]
    exact E0.lay hv m2
  · intro k hk
    rw [tl 1 (by decide), e1] at hk
    rw [tl 23 (by decide), tl 24 (by decide), tl 25 (by decide), tl 26 (by decide), lay 23 (by decide) (by decide), lay 24 (by decide) (by decide), lay 25 (by decide) (by decide), lay 26 (by decide) (by decide), E0.be hv hk, E0.bs hv 12 k hk, E0.ok hv hk]
    exact m3 k hk
  · rw [tl 26 (by decide), lay 26 (by decide) (by decide)]; exact m4
  · rw [tl 21 (by decide), tl 1 (by decide), tl 7 (by decide), tl 23 (by decide)]; exact Lb
  · rw [tl 1 (by decide)] at hk
    have := kb k hk
    unfold zKk at *
    rw [tl 3 (by decide), tl 26 (by decide), tl 25 (by decide), tl 24 (by decide), tl 23 (by decide), tl 22 (by decide), tl 8 (by decide)]
    exact this
  · unfold zStood at *
    rw [t2 6 (by decide), tl 2 (by decide), tl 1 (by decide), t1 44 (by decide) (by decide)]
    exact ⟨sb.1, E1.stand sb.2⟩
  · unfold zOrd
    rw [tl 1 (by decide), tl 10 (by decide), t1 43 (by decide) (by decide)]; exact ho
  · rw [tl 1 (by decide), tl 10 (by decide), t1 43 (by decide) (by decide)]; exact t5
  · have q : ∀ r, r < 8 → τ (34 + r) = σb (34 + r) := fun r hr => t1 _ (by omega) (by omega)
    unfold zMr at *
    rw [q 1 (by decide), q 2 (by decide), q 3 (by decide), q 4 (by decide), q 5 (by decide), q 6 (by decide), q 7 (by decide), show τ 34 = σb 34 from q 0 (by decide)]
    exact m34
  · rw [tl 1 (by decide), tl 10 (by decide), tl 21 (by decide), t1 43 (by decide) (by decide)]; exact t3
  · rw [t1 34 (by decide) (by decide), h34, zs_eq]
theorem c_Sg_prepare {G : zG} {n : Nat} {σ : zSt} (hn : 189 ≤ n) (hg : zGood σ 1) {d r : Nat → Nat} (hv : zVal (zSv σ 1) d r) (hly : ∀ k, k < (σ 1 0).toNat → 0 ≤ σ 8 (9 * k + 6) ∧ σ 8 (9 * k + 6) ≤ 9) (hop : ∀ k, k < 12 → σ 26 k = 0 ∨ σ 26 k = 1) (hM : zMr σ 34 ∧ ∀ j, j < 6 → zMr σ (45 + 8 * j)) : Gm G y_Sg_prepare m_Sg_prepare 4 0 0 [vr G 33] n SH σ (zV n SH (fun σ' => zPrep σ σ')) := by
  refine g_enter (L := [(0, _)]) (by decide) rfl rfl rfl (Nat.le_of_ble_eq_true rfl) (fun X => ?_)
  have hc : 0 ≤ σ 1 8 ∧ σ 1 8 ≤ 6 := hg.1.2.2
  refine g_aload_n (i := 0) (by decide +kernel) rfl ?_
  refine g_getr f_Sg_33 (by decide +kernel) (by omega) rfl rfl ?_
  refine g_aload_n (i := 0) (by decide +kernel) rfl ?_
  refine g_getr f_Sg_29 (by decide +kernel) (by omega) rfl rfl ?_
  refine g_cVV (st := []) (c_La_measure (b := 1) (c := 21) hn la_21 sh_1 hg (Or.inr (by decide)) hv hop) k_La_measure l_Sg_37 (by decide +kernel) (by omega) rfl rfl rfl rfl (Nat.le_of_ble_eq_true rfl) (by decide) ⟨by decide, by decide⟩ ?_
  rintro σ1 hm
  have K1 := zMeas_kk hv hg hm
  obtain ⟨m1, m2, m3, m4, m5, m6⟩ := id hm
  have g1 : zGood σ1 1 := zGood_pr (fun a ha => m1 a (by omega)) hg
  refine g_aload_n (i := 0) (by decide +kernel) rfl ?_
  refine g_getr f_Sg_12 (by decide +kernel) (by omega) rfl rfl ?_
  refine g_iconst (a := -1) (by decide +kernel) ?_
  refine g_puti f_Sg_43 (by decide +kernel) (by omega) rfl rfl ?_
  refine g_aload_n (i := 0) (by decide +kernel) rfl ?_
  have g2 : zGood (zs σ1 34 0 (-1)) 1 := zGood_pr (fun a ha => zs_other (by omega)) g1
  refine g_cVV (st := []) (c_Sg_standLeaves hn g2 (fun k hk => by rw [zs_other (by decide)] at hk; rw [zs_other (by decide), m1 8 (by omega)]; rw [m1 1 (by omega)] at hk; exact hly k hk)) k_Sg_standLeaves l_Sg_47 (by decide +kernel) (by omega) rfl rfl rfl rfl (Nat.le_of_ble_eq_true rfl) (by decide) ⟨by decide, by decide⟩ ?_
  rintro σ3 ⟨t1, t2, t3, t4⟩
  have g3 : zGood σ3 1 := zGood_pr (fun a ha => t1 a (by omega) (by omega)) g2
  refine g_aload_n (i := 0) (by decide +kernel) rfl ?_
  refine g_cVV (st := []) (c_Sg_sortPresses hn g3) k_Sg_sortPresses l_Sg_50 (by decide +kernel) (by omega) rfl rfl rfl rfl (Nat.le_of_ble_eq_true rfl) (by decide) ⟨by decide, by decide⟩ ?_
  rintro σ4 ⟨u1, u2⟩
  refine g_aload_n (i := 0) (by decide +kernel) rfl ?_
  refine g_aload_n (i := 0) (by decide +kernel) rfl ?_
  refine g_getr f_Sg_33 (by decide +kernel) (by omega) rfl rfl ?_
  refine g_geti f_Sg_53 (by decide +kernel) (by omega) rfl rfl ?_
  refine g_puti f_Sg_56 (by decide +kernel) (by omega) rfl rfl ?_
  refine g_iconst (a := 0) (by decide +kernel) ?_
  refine g_istore_n (i := 1) (L' := [(0, _), (1, _)]) (by decide +kernel) rfl rfl ?_
  have L : ∀ a, a ≠ 33 → a ≠ 34 → a ≠ 43 → a ≠ 44 → zs σ4 33 7 (σ4 21 5) a = σ1 a := fun a h1 h2 h3 h4 => by rw [zs_other h1, u1 a h3, t1 a h4 h1, zs_other h2]
  exact zPrep_run hn hg hv hM hm L (by rw [zs_row, zu_ne (by decide), u1 33 (by decide)]; rw [t3, zs_other (by decide), zs_other (by decide)]) (by rw [zs_other (by decide), u1 44 (by decide)]; rw [zs_other (by decide), zs_other (by decide)] at t4; exact t4) (by
    intro j hj
    have q1 : zs σ4 33 7 (σ4 21 5) 1 = σ1 1 := L 1 (by decide) (by decide) (by decide) (by decide)
    have q10 : zs σ4 33 7 (σ4 21 5) 10 = σ1 10 := L 10 (by decide) (by decide) (by decide) (by decide)
    have q43 : zs σ4 33 7 (σ4 21 5) 43 = σ4 43 := zs_other (by decide)
    rw [q1] at hj ⊢
    rw [q10, q43]
    rw [t1 1 (by decide) (by decide), t1 10 (by decide) (by decide), zs_other (by decide), zs_other (by decide)] at u2
    exact u2 j hj) (by rw [zs_eq, L 21 (by decide) (by decide) (by decide) (by decide), u1 21 (by decide), t1 21 (by decide) (by decide), zs_other (by decide)]) (by rw [zs_other (by decide), u1 34 (by decide), t1 34 (by decide) (by decide)])
end
section
/-! WHAT HOLDS AT A TIME: of a Show S alone. M r k: r = 1 state, 2 local, 3 pass, 4 begin, 5 since, 6 strength, 7 share; M 0 1 dark; P j: what held at press j -/
def zThA (S : zSt) (t : Int) (M : zSt) (P : Nat → zSt) (j : Nat) : zSt := if S 9 j = t then M else P j
def zpr (S : zSt) (i : Nat) : Nat := (zord (S 9) (S 0 8).toNat i).toNat
def zbpA (S : zSt) (t : Int) (M : zSt) (P : Nat → zSt) (k i : Nat) : Bool := decide (S 8 (zpr S i) = S 6 (zBs S 12 k) ∧ S 9 (zpr S i) ≤ t ∧ zThA S t M P (zpr S i) 1 (S 2 k).toNat = 2) && zsame (S 2) (M 3) (zThA S t M P (zpr S i) 3) 12 (S 2 k)
def zBPA (S : zSt) (ac : Nat → Int) (t : Int) (M : zSt) (P : Nat → zSt) (k : Nat) : Int := if zfst (zbpA S t M P k) (S 0 8).toNat = -1 then -1 else zThA S t M P (zpr S (zfst (zbpA S t M P k) (S 0 8).toNat).toNat) 2 (S 2 k).toNat + zBe S ac k
def zBkA (S : zSt) (ac : Nat → Int) (t : Int) (M : zSt) (P : Nat → zSt) (k : Nat) : Int := if zOk S k = true then zBPA S ac t M P k else zBe S ac k
def zTaA (S : zSt) (t : Int) (M : zSt) (k : Nat) : Int := if S 2 k = -1 then t else M 2 (S 2 k).toNat
abbrev zOfA (S M : zSt) (k : Nat) : Prop := S 2 k ≠ -1 ∧ ¬ (M 1 (S 2 k).toNat = 2 ∨ M 1 (S 2 k).toNat = 3)
def zEqV (S : zSt) (si ac : Nat → Int) (M : zSt) (k : Nat) (bk ta : Int) : Prop :=
  M 1 k = (if zOfA S M k then 0 else if bk = -1 ∨ ta < bk then 1 else if ta - bk < ac k then 2 else if S 7 (9 * k + 5) = 1 ∧ 0 < ac k then 3 else 4) ∧
  M 5 k = (if M 1 k = 2 then ta - bk else if M 1 k = 3 then ac k - 1 else 0) ∧
  M 2 k = (if M 1 k = 2 ∨ M 1 k = 3 then (if S 7 (9 * k + 4) = 1 then si k - 1 - M 5 k * S 7 (9 * k + 1) % si k else M 5 k * S 7 (9 * k + 1) % si k) else -1) ∧
  M 3 k = (if M 1 k = 2 ∨ M 1 k = 3 then M 5 k * S 7 (9 * k + 1) / si k else -1) ∧
  M 4 k = (if M 1 k = 0 then -1 else bk) ∧
  M 6 k = (if M 1 k = 2 ∨ M 1 k = 3 then min 100 (min ((M 5 k + 1) * 100 / (S 7 (9 * k + 7) + 1)) ((ac k - M 5 k) * 100 / (S 7 (9 * k + 8) + 1))) * (if S 2 k = -1 then 100 else M 6 (S 2 k).toNat) / 100 else 0)
def zEqA (S : zSt) (si ac : Nat → Int) (t : Int) (M : zSt) (P : Nat → zSt) (k : Nat) : Prop := zEqV S si ac M k (zBkA S ac t M P k) (zTaA S t M k)
def zAllA (S : zSt) (si ac : Nat → Int) (t : Int) (M : zSt) (P : Nat → zSt) : Prop := ∀ k, k < zN S → zEqA S si ac t M P k
def zFam (S : zSt) (si ac : Nat → Int) (P : Nat → zSt) : Prop := ∀ j, j < (S 0 8).toNat → zAllA S si ac (S 9 j) (P j) P
def zlvs (S : zSt) : Nat := zcnt (fun j => decide (S 1 j = 0)) (zN S)
def zShA (S M : zSt) : Prop := ∃ sd, zStand S sd (zlvs S) ∧ (∀ i, i < zlvs S → M 7 (sd i).toNat = zlt (M 6) sd i * M 6 (sd i).toNat / 100) ∧ M 0 1 = zlt (M 6) sd (zlvs S)
/-- M is what holds of S at t -/
def zIs (S : zSt) (t : Int) (M : zSt) : Prop := ∃ si ac P, zLay S si ac ∧ zFam S si ac P ∧ zAllA S si ac t M P ∧ zShA S M
/-- a Show that holds together, with its presses' times -/
def zVt (S : zSt) : Prop := (∃ d r, zVal S d r) ∧ (0 ≤ S 0 8 ∧ ∀ i, i < (S 0 8).toNat → 0 ≤ S 9 i ∧ S 9 i ≤ 1999)
theorem zpr_lt (S : zSt) {i : Nat} (hi : i < (S 0 8).toNat) : zpr S i < (S 0 8).toNat := by
  have := zord_in (S 9) (S 0 8).toNat i hi
  unfold zpr; omega
theorem zsame_cg {k : Nat} {ar ar' pa pb pa' pb' : Nat → Int} (hr : ∀ j, j < k → ar' j = ar j) (ht : ∀ j, j < k → -1 ≤ ar j ∧ ar j < j) (ha : ∀ j, j < k → pa' j = pa j) (hb : ∀ j, j < k → pb' j = pb j) : ∀ f (x : Int), -1 ≤ x → x < k → zsame ar' pa' pb' f x = zsame ar pa pb f x
  | 0, _, _, _ => rfl
  | f + 1, x, h1, h2 => by
    rw [zsame_s, zsame_s]
    split
    · rfl
    · rw [ha _ (by omega), hb _ (by omega), hr _ (by omega)]
      split
      · have := ht x.toNat (by omega)
        exact zsame_cg hr ht ha hb f _ (by omega) (by omega)
      · rfl
section SEM
variable {S T : zSt} {d r : Nat → Nat} {si ac si' ac' : Nat → Int} {t t' : Int} {M M' : zSt} {P P' : Nat → zSt} {k : Nat}
theorem zEqv.pr (E : zEqv S T) {i : Nat} (hi : i < (S 0 8).toNat) : zpr T i = zpr S i := by
  unfold zpr
  rw [E.1.2, zord_congr (tm := T 9) (tm' := S 9) _ (fun i hi => (E.2.2.2 i hi).2) i hi]
theorem zBkA_cong (E : zEqv S T) (hv : zVal S d r) (hk : k < zN S) (hac : zBe S ac' k = zBe S ac k) (h3 : ∀ q, q < k → M' 3 q = M 3 q)
    (hj : ∀ j, j < (S 0 8).toNat → (t < S 9 j ∧ t' < S 9 j) ∨ (S 9 j ≤ t ∧ S 9 j ≤ t' ∧ ∀ q, q < k → zThA T t' M' P' j 1 q = zThA S t M P j 1 q ∧ zThA T t' M' P' j 2 q = zThA S t M P j 2 q ∧ zThA T t' M' P' j 3 q = zThA S t M P j 3 q)) : zBkA T ac' t' M' P' k = zBkA S ac t M P k := by
  unfold zBkA
  rw [E.ok hv hk, E.be hv hk, hac]
  cases hO : zOk S k with
  | false => rfl
  | true =>
    rw [if_pos rfl, if_pos rfl]
    have tk := hv.2.1 k hk
    have hne : S 2 k ≠ -1 := fun e => by unfold zOk at hO; rw [if_pos e] at hO; cases hO
    have tr : ∀ j, j < k → -1 ≤ S 2 j ∧ S 2 j < j := fun j hj => ⟨(hv.2.1 j (by omega)).2.1, (hv.2.1 j (by omega)).1⟩
    have e2 : T 2 k = S 2 k := E.2.1 k hk 2 (by decide) (by decide)
    have bs := zBs_in hv 12 k hk
    have key : ∀ i, i < (S 0 8).toNat → zbpA T t' M' P' k i = zbpA S t M P k i := fun i hi => by
      have pl := zpr_lt S hi
      unfold zbpA
      rw [E.pr hi, e2, E.bs hv 12 k hk, E.2.1 _ bs.1 6 (by decide) (by decide), (E.2.2.2 _ pl).1, (E.2.2.2 _ pl).2]
      rcases hj _ pl with z | ⟨z1, z2, z3⟩
      · rw [decide_eq_false (fun q => by have := q.2.1; omega), decide_eq_false (fun q => by have := q.2.1; omega)]
        rfl
      · rw [zsame_cg (ar := S 2) (pa := M 3) (pb := zThA S t M P (zpr S i) 3) (k := k) (fun j hj => E.2.1 j (by omega) 2 (by decide) (by decide)) tr h3 (fun j hj => (z3 j hj).2.2) 12 (S 2 k) tk.2.1 tk.1, (z3 (S 2 k).toNat (by omega)).1]
        simp only [z1, z2]
    unfold zBPA
    rw [E.1.2, zfst_congr (q := zbpA S t M P k) key, E.be hv hk, hac]
    rcases zfst_spec (p := zbpA S t M P k) (n := (S 0 8).toNat) with ⟨e, -⟩ | ⟨i, e1, e3, e4, -⟩
    · rw [if_pos e, if_pos e]
    · rw [if_neg (by omega), if_neg (by omega), e1, Int.toNat_natCast, E.pr e3, e2]
      have pl := zpr_lt S e3
      rcases hj _ pl with z | ⟨z1, z2, z3⟩
      · unfold zbpA at e4
        rw [Bool.and_eq_true] at e4
        have := (of_decide_eq_true e4.1).2.1
        omega
      · rw [(z3 (S 2 k).toNat (by omega)).2.1]
/-- the equations fix a clip -/
theorem zEqV_fix {bk ta : Int} (hM : S 2 k ≠ -1 → M' 1 (S 2 k).toNat = M 1 (S 2 k).toNat ∧ M' 6 (S 2 k).toNat = M 6 (S 2 k).toNat) (h : zEqV S si ac M k bk ta) (h' : zEqV S si ac M' k bk ta) : ∀ r, 1 ≤ r → r ≤ 6 → M' r k = M r k := by
  obtain ⟨a1, a5, a2, a3, a4, a6⟩ := h
  obtain ⟨b1, b5, b2, b3, b4, b6⟩ := h'
  have o : zOfA S M' k ↔ zOfA S M k := by
    unfold zOfA
    by_cases e : S 2 k = -1
    · simp [e]
    · rw [(hM e).1]
  have e1 : M' 1 k = M 1 k := by
    rw [a1, b1]
    by_cases z : zOfA S M k
    · rw [if_pos z, if_pos (o.mpr z)]
    · rw [if_neg z, if_neg (fun q => z (o.mp q))]
  have e5 : M' 5 k = M 5 k := by rw [a5, b5, e1]
  have e6 : (if S 2 k = -1 then (100 : Int) else M' 6 (S 2 k).toNat) = if S 2 k = -1 then 100 else M 6 (S 2 k).toNat := by
    split
    · rfl
    · next z => exact (hM z).2
  intro r h1 h2
  rcases (by omega : r = 1 ∨ r = 2 ∨ r = 3 ∨ r = 4 ∨ r = 5 ∨ r = 6) with rfl | rfl | rfl | rfl | rfl | rfl
  · exact e1
  · rw [a2, b2, e1, e5]
  · rw [a3, b3, e1, e5]
  · rw [a4, b4, e1]
  · exact e5
  · rw [a6, b6, e1, e5, e6]
/-- at one time, with the same presses before it, there is one solution -/
theorem zAllA_fixn (hv : zVal S d r) (hP : ∀ j, j < (S 0 8).toNat → S 9 j < t → ∀ q, q < zN S → ∀ r, 1 ≤ r → r ≤ 3 → P' j r q = P j r q) : ∀ n, n ≤ zN S → (∀ k, k < n → zEqA S si ac t M P k) → (∀ k, k < n → zEqA S si ac t M' P' k) → ∀ k, k < n → ∀ r, 1 ≤ r → r ≤ 6 → M' r k = M r k
  | 0, _, _, _, k, hk => by omega
  | n + 1, hn, h, h', k, hk => by
    have ih := zAllA_fixn hv hP n (by omega) (fun k hk => h k (by omega)) (fun k hk => h' k (by omega))
    rcases Nat.lt_or_ge k n with z | z
    · exact ih k z
    · rw [show k = n by omega]
      have tk := hv.2.1 n (by omega)
      have hb : zBkA S ac t M' P' n = zBkA S ac t M P n := zBkA_cong (zEqv.of (fun _ _ => rfl)) hv (by omega) rfl (fun q hq => ih q hq 3 (by decide) (by decide)) (fun j hj => by
        by_cases e : t < S 9 j
        · exact Or.inl ⟨e, e⟩
        · refine Or.inr ⟨by omega, by omega, fun q hq => ?_⟩
          unfold zThA
          by_cases e2 : S 9 j = t
          · rw [if_pos e2, if_pos e2]
            exact ⟨ih q hq 1 (by decide) (by decide), ih q hq 2 (by decide) (by decide), ih q hq 3 (by decide) (by decide)⟩
          · rw [if_neg e2, if_neg e2]
            have p := hP j hj (by omega) q (by omega)
            exact ⟨p 1 (by decide) (by decide), p 2 (by decide) (by decide), p 3 (by decide) (by decide)⟩)
      have ht : zTaA S t M' n = zTaA S t M n := by
        unfold zTaA
        split
        · rfl
        · exact ih _ (by omega) 2 (by decide) (by decide)
      have a := h n (by omega)
      have b := h' n (by omega)
      unfold zEqA at a b
      rw [hb, ht] at b
      exact zEqV_fix (fun e => ⟨ih _ (by omega) 1 (by decide) (by decide), ih _ (by omega) 6 (by decide) (by decide)⟩) a b
theorem zAllA_fix (hv : zVal S d r) (hP : ∀ j, j < (S 0 8).toNat → S 9 j < t → ∀ q, q < zN S → ∀ r, 1 ≤ r → r ≤ 3 → P' j r q = P j r q) (h : zAllA S si ac t M P) (h' : zAllA S si ac t M' P') : ∀ n, n ≤ zN S → ∀ k, k < n → ∀ r, 1 ≤ r → r ≤ 6 → M' r k = M r k := fun n hn => zAllA_fixn hv hP n hn (fun k hk => h k (by omega)) (fun k hk => h' k (by omega))
/-- one family of presses alone -/
theorem zFam_fix (hv : zVal S d r) (ht : ∀ i, i < (S 0 8).toNat → 0 ≤ S 9 i) (h : zFam S si ac P) (h' : zFam S si ac P') : ∀ n : Nat, ∀ j, j < (S 0 8).toNat → S 9 j < n → ∀ k, k < zN S → ∀ r, 1 ≤ r → r ≤ 6 → P' j r k = P j r k
  | 0, j, hj, hn => by have := ht j hj; omega
  | n + 1, j, hj, hn => by
    have ih := zFam_fix hv ht h h' n
    exact zAllA_fix hv (fun i hi h1 q hq r r1 r2 => ih i hi (by omega) q hq r r1 (by omega)) (h j hj) (h' j hj) (zN S) (Nat.le_refl _)
/-- another layout of the same Show is the same -/
theorem zEqA_lay (hv : zVal S d r) (hl : ∀ k, k < zN S → si k = si' k ∧ ac k = ac' k) (hk : k < zN S) (h : zEqA S si ac t M P k) : zEqA S si' ac' t M P k := by
  have b : zBe S ac' k = zBe S ac k := zBe_congr hv hk (fun i hi _ => ((hl i hi).2).symm)
  have bk : zBkA S ac' t M P k = zBkA S ac t M P k := by
    unfold zBkA zBPA
    rw [b]
  unfold zEqA at *
  rw [bk]
  unfold zEqV at *
  rw [← (hl k hk).1, ← (hl k hk).2]
  exact h
/-- ONE MOMENT ALONE -/
theorem zAll_uniq (hS : zVt S) (h1 : zLay S si ac ∧ zFam S si ac P ∧ zAllA S si ac t M P) (h2 : zLay S si' ac' ∧ zFam S si' ac' P' ∧ zAllA S si' ac' t M' P') : ∀ k, k < zN S → ∀ r, 1 ≤ r → r ≤ 6 → M' r k = M r k := by
  obtain ⟨⟨d, r, hv⟩, p0, ht⟩ := hS
  have L := zLay_uniq hv h2.1 h1.1
  have F : zFam S si ac P' := fun j hj k hk => zEqA_lay hv L hk (h2.2.1 j hj k hk)
  have A : zAllA S si ac t M' P' := fun k hk => zEqA_lay hv L hk (h2.2.2 k hk)
  exact zAllA_fix hv (fun j hj _ q hq r r1 r2 => zFam_fix hv (fun i hi => (ht i hi).1) h1.2.1 F 2000 j hj (by have := ht j hj; omega) q hq r r1 (by omega)) h1.2.2 A (zN S) (Nat.le_refl _)
theorem zlt_congr {sg sg' sd sd' : Nat → Int} : ∀ i, (∀ j, j < i → sd' j = sd j ∧ sg' (sd j).toNat = sg (sd j).toNat) → zlt sg' sd' i = zlt sg sd i
  | 0, _ => rfl
  | i + 1, h => by rw [zlt_s, zlt_s, zlt_congr i (fun j hj => h j (by omega)), (h i (by omega)).1, (h i (by omega)).2]
theorem zpo_all (hk : k < zN S) (hl : S 1 k = 0) : zpo S k < zlvs S := by
  unfold zpo zlvs
  have a : ∀ i, i < zN S → zAh S (S 7 (9 * k + 6)) (k + 1) i = true → decide (S 1 i = 0) = true := fun i _ hi => decide_eq_true (of_decide_eq_true hi).1
  have b : zAh S (S 7 (9 * k + 6)) (k + 1) k = false := decide_eq_false (by omega)
  have c : decide (S 1 k = 0) = true := decide_eq_true hl
  have key : ∀ n, k < n → (∀ i, i < n → zAh S (S 7 (9 * k + 6)) (k + 1) i = true → decide (S 1 i = 0) = true) → zcnt (zAh S (S 7 (9 * k + 6)) (k + 1)) n < zcnt (fun j => decide (S 1 j = 0)) n := by
    intro n
    induction n with
    | zero => intro h1; omega
    | succ n ih =>
      intro h1 h2
      rcases Nat.lt_or_ge k n with z | z
      · have := ih z (fun i hi => h2 i (by omega))
        unfold zcnt
        cases hp : zAh S (S 7 (9 * k + 6)) (k + 1) n with
        | true => rw [h2 n (by omega) hp]; omega
        | false => rw [if_neg (show ¬ (false = true) by decide)]; split <;> omega
      · have e : n = k := by omega
        subst e
        have := zcnt_mono (fun i hi => h2 i (by omega)) (n := n) (p := zAh S (S 7 (9 * n + 6)) (n + 1)) (q := fun j => decide (S 1 j = 0))
        unfold zcnt
        rw [b, c]
        simp only [Bool.false_eq_true, if_false, if_true]
        omega
  exact key (zN S) hk a
/-- each leaf stands somewhere -/
theorem zStand.all {sd : Nat → Int} (h : zStand S sd (zlvs S)) (hk : k < zN S) (hl : S 1 k = 0) : ∃ i, i < zlvs S ∧ (sd i).toNat = k := by
  have a := zpo_all hk hl
  have b := h _ a
  exact ⟨zpo S k, a, zpo_inj b.2.1 hk b.2.2.1 hl b.2.2.2⟩
theorem zIs_uniq (hS : zVt S) (h1 : zIs S t M) (h2 : zIs S t M') : (∀ k, k < zN S → ∀ r, 1 ≤ r → r ≤ 6 → M' r k = M r k) ∧ (∀ k, k < zN S → S 1 k = 0 → M' 7 k = M 7 k) ∧ M' 0 1 = M 0 1 := by
  obtain ⟨si, ac, P, a1, a2, a3, sd, s1, s2, s3⟩ := h1
  obtain ⟨si', ac', P', b1, b2, b3, sd', u1, u2, u3⟩ := h2
  have R := zAll_uniq hS ⟨a1, a2, a3⟩ ⟨b1, b2, b3⟩
  have D := zStand_uniq s1 u1
  have Z : ∀ i, i ≤ zlvs S → zlt (M' 6) sd' i = zlt (M 6) sd i := fun i hi => zlt_congr i (fun j hj => ⟨(D j (by omega)).symm, R _ (s1 j (by omega)).2.1 6 (by decide) (by decide)⟩)
  refine ⟨R, fun k hk hl => ?_, by rw [s3, u3, Z _ (Nat.le_refl _)]⟩
  obtain ⟨i, hi, rfl⟩ := s1.all hk hl
  rw [s2 i hi, D i hi, u2 i hi, Z i (by omega), ← D i hi, R _ (s1 i hi).2.1 6 (by decide) (by decide)]
/-- two Shows that say the same have the same moments -/
theorem zIs_eqv (hS : zVt S) (E : zEqv S T) (h : zIs S t M) : zIs T t M := by
  obtain ⟨si, ac, P, a1, a2, a3, sd, s1, s2, s3⟩ := h
  obtain ⟨⟨d, r, hv⟩, p0, ht⟩ := hS
  have eq : ∀ (t : Int) (M : zSt) k, k < zN S → zEqA S si ac t M P k → zEqA T si ac t M P k := fun t M k hk h => by
    have tk := hv.2.1 k hk
    have e2 : T 2 k = S 2 k := E.2.1 k hk 2 (by decide) (by decide)
    have hb : zBkA T ac t M P k = zBkA S ac t M P k := zBkA_cong E hv hk rfl (fun _ _ => rfl) (fun j hj => by
      by_cases e : t < S 9 j
      · exact Or.inl ⟨e, e⟩
      · refine Or.inr ⟨by omega, by omega, fun q hq => ?_⟩
        unfold zThA
        rw [(E.2.2.2 j hj).2]
        exact ⟨rfl, rfl, rfl⟩)
    have m := E.2.2.1 k hk
    unfold zEqA zEqV zTaA zOfA at *
    simp only [hb, e2, m 1 (by decide), m 4 (by decide), m 5 (by decide), m 7 (by decide), m 8 (by decide)]
    exact h
  have lv : zlvs T = zlvs S := by
    unfold zlvs
    rw [E.n]
    exact zcnt_congr (fun j hj => by rw [E.2.1 j hj 1 (by decide) (by decide)])
  refine ⟨si, ac, P, E.lay hv a1, fun j hj k hk => ?_, fun k hk => ?_, sd, ?_⟩
  · rw [E.1.2] at hj
    rw [E.n] at hk
    rw [(E.2.2.2 j hj).2]
    exact eq _ _ k hk (a2 j hj k hk)
  · rw [E.n] at hk
    exact eq _ _ k hk (a3 k hk)
  · rw [lv]
    exact ⟨E.stand s1, s2, s3⟩
theorem zVt.eqv (hS : zVt S) (E : zEqv S T) : zVt T := by
  obtain ⟨⟨d, r, hv⟩, p0, ht⟩ := hS
  refine ⟨⟨d, r, E.val hv⟩, by rw [E.1.2]; exact p0, fun i hi => ?_⟩
  rw [E.1.2] at hi
  rw [(E.2.2.2 i hi).2]
  exact ht i hi
theorem zIs_step (hv : zVal S d r) {s : Int} (hs : ∀ i, i < (S 0 8).toNat → S 9 i ≤ s) (hl : 0 < zN S → ∀ si ac, zLay S si ac → S 6 0 + ac 0 ≤ s) (t1 : s ≤ t) (t2 : s ≤ t') (a1 : zLay S si ac) (a2 : zFam S si ac P) (a3 : zAllA S si ac t M P) (hk : k < zN S) (ih : ∀ q, q < k → zEqA S si ac t' M P q) : zEqA S si ac t' M P k := by
  have tk := hv.2.1 k hk
  have row : ∀ j, j < (S 0 8).toNat → S 9 j = t → ∀ q, q < k → ∀ r, 1 ≤ r → r ≤ 6 → P j r q = M r q := fun j hj e q hq r r1 r2 => by
    have A := a2 j hj
    rw [e] at A
    exact zAllA_fixn hv (fun _ _ _ _ _ _ _ _ => rfl) k (by omega) (fun k hk => a3 k (by omega)) (fun k hk => A k (by omega)) q hq r r1 r2
  have row' : ∀ j, j < (S 0 8).toNat → S 9 j = t' → ∀ q, q < k → ∀ r, 1 ≤ r → r ≤ 6 → P j r q = M r q := fun j hj e q hq r r1 r2 => by
    have A := a2 j hj
    rw [e] at A
    exact zAllA_fixn hv (fun _ _ _ _ _ _ _ _ => rfl) k (by omega) ih (fun k hk => A k (by omega)) q hq r r1 r2
  have hb : zBkA S ac t' M P k = zBkA S ac t M P k := zBkA_cong (zEqv.of (fun _ _ => rfl)) hv hk rfl (fun _ _ => rfl) (fun j hj => by
    have sj := hs j hj
    refine Or.inr ⟨by omega, by omega, fun q hq => ?_⟩
    unfold zThA
    by_cases e : S 9 j = t'
    · rw [if_pos e]
      by_cases e2 : S 9 j = t
      · rw [if_pos e2]; exact ⟨rfl, rfl, rfl⟩
      · rw [if_neg e2]
        have R := row' j hj e q hq
        exact ⟨(R 1 (by decide) (by decide)).symm, (R 2 (by decide) (by decide)).symm, (R 3 (by decide) (by decide)).symm⟩
    · rw [if_neg e]
      by_cases e2 : S 9 j = t
      · rw [if_pos e2]
        have R := row j hj e2 q hq
        exact ⟨R 1 (by decide) (by decide), R 2 (by decide) (by decide), R 3 (by decide) (by decide)⟩
      · rw [if_neg e2]; exact ⟨rfl, rfl, rfl⟩)
  have A := a3 k hk
  unfold zEqA at *
  rw [hb]
  by_cases e : S 2 k = -1
  · have k0 : k = 0 := tk.2.2.mpr e
    subst k0
    have L := hl hk si ac a1
    have hB : zBkA S ac t M P 0 = S 6 0 := by
      unfold zBkA zOk zBe
      simp [e]
    have T1 : zTaA S t M 0 = t := if_pos e
    have T2 : zTaA S t' M 0 = t' := if_pos e
    rw [hB, T1] at A
    rw [hB, T2]
    have m := (hv.2.2.1 0 hk).1.2.2.2.2
    have a0 := (zLay_bound hv a1 hk).2.1
    unfold zEqV at *
    have w1 : ¬ (S 6 0 = -1 ∨ t < S 6 0) := by omega
    have w2 : ¬ (S 6 0 = -1 ∨ t' < S 6 0) := by omega
    have w3 : ¬ t - S 6 0 < ac 0 := by omega
    have w4 : ¬ t' - S 6 0 < ac 0 := by omega
    rw [if_neg w1, if_neg w3] at A
    rw [if_neg w2, if_neg w4]
    obtain ⟨b1, b5, br⟩ := A
    refine ⟨b1, ?_, br⟩
    have n2 : ¬ M 1 0 = 2 := by
      rw [b1]
      split
      · decide
      · split <;> decide
    rw [if_neg n2] at b5 ⊢
    exact b5
  · have : zTaA S t' M k = zTaA S t M k := by unfold zTaA; rw [if_neg e, if_neg e]
    rw [this]
    exact A
/-- from when on nothing changes -/
theorem zIs_late (hS : zVt S) {s : Int} (hs : ∀ i, i < (S 0 8).toNat → S 9 i ≤ s) (hl : 0 < zN S → ∀ si ac, zLay S si ac → S 6 0 + ac 0 ≤ s) (t1 : s ≤ t) (t2 : s ≤ t') (h : zIs S t M) : zIs S t' M := by
  obtain ⟨si, ac, P, a1, a2, a3, a4⟩ := h
  obtain ⟨⟨d, r, hv⟩, p0, ht⟩ := hS
  refine ⟨si, ac, P, a1, a2, fun k hk => ?_, a4⟩
  have main : ∀ n, n ≤ zN S → ∀ k, k < n → zEqA S si ac t' M P k := by
    intro n
    induction n with
    | zero => intro _ k hk; omega
    | succ n ih =>
      intro hn k hk
      rcases Nat.lt_or_ge k n with z | z
      · exact ih (by omega) k z
      · rw [show k = n by omega]
        exact zIs_step hv hs hl t1 t2 a1 a2 a3 (by omega) (ih (by omega))
  exact main (zN S) (Nat.le_refl _) k hk
end SEM
/-- what holds of S at t -/
noncomputable def zv (S : zSt) (t : Int) : zSt := @dite _ (∃ M, zIs S t M) (Classical.propDecidable _) (fun h => Classical.choose h) (fun _ => fun _ _ => 0)
theorem zv_is {S M : zSt} {t : Int} (h : zIs S t M) : zIs S t (zv S t) := by
  have e : ∃ M, zIs S t M := ⟨M, h⟩
  unfold zv
  rw [dif_pos e]
  exact Classical.choose_spec e
theorem zv_eq {S M : zSt} {t : Int} (hS : zVt S) (h : zIs S t M) : (∀ k, k < zN S → ∀ r, 1 ≤ r → r ≤ 6 → M r k = zv S t r k) ∧ (∀ k, k < zN S → S 1 k = 0 → M 7 k = zv S t 7 k) ∧ M 0 1 = zv S t 0 1 := zIs_uniq hS (zv_is h) h
theorem zv_eqv {S T : zSt} {t : Int} (hS : zVt S) (E : zEqv S T) : zv T t = zv S t := by
  have : zIs T t = zIs S t := by
    funext M
    exact propext ⟨fun h => zIs_eqv (hS.eqv E) E.sym h, fun h => zIs_eqv hS E h⟩
  unfold zv
  rw [this]
end
section
/-! how the equations of a clip come about -/
section MK
variable {S M : zSt} {si ac : Nat → Int} {k : Nat} {bk ta : Int}
theorem zEqV_off (o : zOfA S M k) (a1 : M 1 k = 0) (a2 : M 2 k = -1) (a3 : M 3 k = -1) (a4 : M 4 k = -1) (a5 : M 5 k = 0) (a6 : M 6 k = 0) : zEqV S si ac M k bk ta := by
  have n : ¬ (M 1 k = 2 ∨ M 1 k = 3) := by omega
  refine ⟨by rw [if_pos o]; exact a1, by rw [if_neg (by omega), if_neg (by omega)]; exact a5, by rw [if_neg n]; exact a2, by rw [if_neg n]; exact a3, by rw [if_pos a1]; exact a4, by rw [if_neg n]; exact a6⟩
theorem zEqV_idle {st : Int} (o : ¬ zOfA S M k) (h : (st = 1 ∧ (bk = -1 ∨ ta < bk)) ∨ (st = 4 ∧ ¬ (bk = -1 ∨ ta < bk) ∧ ¬ ta - bk < ac k ∧ ¬ (S 7 (9 * k + 5) = 1 ∧ 0 < ac k))) (a1 : M 1 k = st) (a2 : M 2 k = -1) (a3 : M 3 k = -1) (a4 : M 4 k = bk) (a5 : M 5 k = 0) (a6 : M 6 k = 0) : zEqV S si ac M k bk ta := by
  have n : ¬ (M 1 k = 2 ∨ M 1 k = 3) := by omega
  refine ⟨?_, by rw [if_neg (by omega), if_neg (by omega)]; exact a5, by rw [if_neg n]; exact a2, by rw [if_neg n]; exact a3, by rw [if_neg (by omega)]; exact a4, by rw [if_neg n]; exact a6⟩
  rw [if_neg o, a1]
  rcases h with ⟨h1, h2⟩ | ⟨h1, h2, h3, h4⟩
  · rw [if_pos h2]; exact h1
  · rw [if_neg h2, if_neg h3, if_neg h4]; exact h1
theorem zEqV_run {st s : Int} (o : ¬ zOfA S M k) (w : ¬ (bk = -1 ∨ ta < bk)) (h : (st = 2 ∧ ta - bk < ac k ∧ s = ta - bk) ∨ (st = 3 ∧ ¬ ta - bk < ac k ∧ (S 7 (9 * k + 5) = 1 ∧ 0 < ac k) ∧ s = ac k - 1)) (a1 : M 1 k = st) (a2 : M 2 k = (if S 7 (9 * k + 4) = 1 then si k - 1 - s * S 7 (9 * k + 1) % si k else s * S 7 (9 * k + 1) % si k)) (a3 : M 3 k = s * S 7 (9 * k + 1) / si k) (a4 : M 4 k = bk) (a5 : M 5 k = s) (a6 : M 6 k = min 100 (min ((s + 1) * 100 / (S 7 (9 * k + 7) + 1)) ((ac k - s) * 100 / (S 7 (9 * k + 8) + 1))) * (if S 2 k = -1 then 100 else M 6 (S 2 k).toNat) / 100) : zEqV S si ac M k bk ta := by
  have n : M 1 k = 2 ∨ M 1 k = 3 := by omega
  refine ⟨?_, ?_, by rw [if_pos n, a5]; exact a2, by rw [if_pos n, a5]; exact a3, by rw [if_neg (by omega)]; exact a4, by rw [if_pos n, a5]; exact a6⟩
  · rw [if_neg o, if_neg w, a1]
    rcases h with ⟨h1, h2, -⟩ | ⟨h1, h2, h3, -⟩
    · rw [if_pos h2]; exact h1
    · rw [if_neg h2, if_pos h3]; exact h1
  · rw [a1, a5]
    rcases h with ⟨h1, h2, h3⟩ | ⟨h1, h2, h3, h4⟩
    · rw [if_pos h1]; exact h3
    · rw [if_neg (by omega), if_pos h1]; exact h4
end MK
/-! the class's moments are those of its Show -/
section MQ
variable {σ : zSt} {p k : Nat}
theorem zbp_A (h25 : σ 25 k = (zBs (zSv σ 1) 12 k : Int)) (ho : zOrd σ) {i : Nat} (hi : i < (σ 1 8).toNat) : zbp σ p k i = zbpA (zSv σ 1) (σ p 0) (fun r => σ (p + r)) (fun j r => σ (45 + 8 * j + r)) k i := by
  have e : (σ 43 i).toNat = zpr (zSv σ 1) i := by rw [ho i (by omega)]; rfl
  have th : ∀ r, σ (zTh σ p (zpr (zSv σ 1) i) + r) = zThA (zSv σ 1) (σ p 0) (fun r => σ (p + r)) (fun j r => σ (45 + 8 * j + r)) (zpr (zSv σ 1) i) r := by
    intro r
    unfold zTh zThA
    show σ ((if σ 10 _ = σ p 0 then p else _) + r) = (if σ 10 _ = σ p 0 then _ else _ : zSt) r
    split <;> rfl
  unfold zbp zbpA
  rw [e, h25, Int.toNat_natCast, th 1, th 3]
  rfl
theorem zBk_A (h24 : σ 24 k = zBe (zSv σ 1) (σ 23) k) (h25 : σ 25 k = (zBs (zSv σ 1) 12 k : Int)) (h26 : σ 26 k = (if zOk (zSv σ 1) k = true then 1 else 0)) (ho : zOrd σ) : zBkA (zSv σ 1) (σ 23) (σ p 0) (fun r => σ (p + r)) (fun j r => σ (45 + 8 * j + r)) k = zBk σ p k := by
  unfold zBkA zBk
  rw [h26]
  cases hO : zOk (zSv σ 1) k with
  | false => rw [if_neg (by decide), if_pos (by decide)]; exact h24.symm
  | true =>
    rw [if_pos rfl, if_neg (by decide)]
    unfold zBPA zBP
    have c := zfst_congr (n := (σ 1 8).toNat) (p := zbp σ p k) (q := zbpA (zSv σ 1) (σ p 0) (fun r => σ (p + r)) (fun j r => σ (45 + 8 * j + r)) k) (fun i hi => zbp_A h25 ho hi)
    rw [c]
    show (if zfst _ (σ 1 8).toNat = -1 then -1 else _) = _
    rcases zfst_spec (p := zbpA (zSv σ 1) (σ p 0) (fun r => σ (p + r)) (fun j r => σ (45 + 8 * j + r)) k) (n := (σ 1 8).toNat) with ⟨e, -⟩ | ⟨i, e1, e2, e3, -⟩
    · rw [if_pos e, if_pos e]
    · rw [if_neg (by omega), if_neg (by omega), e1, Int.toNat_natCast]
      have e : (σ 43 i).toNat = zpr (zSv σ 1) i := by rw [ho i (by omega)]; rfl
      rw [show zfst (zbpA (zSv σ 1) (σ p 0) (fun r => σ (p + r)) (fun j r => σ (45 + 8 * j + r)) k) (zSv σ 1 0 8).toNat = (i : Int) from e1, Int.toNat_natCast, h24, e]
      unfold zTh zThA
      show (if σ 10 _ = σ p 0 then _ else _ : zSt) 2 (σ 3 k).toNat + _ = σ ((if σ 10 _ = σ p 0 then p else _) + 2) (σ 3 k).toNat + _
      split <;> rfl
theorem zMq_A (h24 : σ 24 k = zBe (zSv σ 1) (σ 23) k) (h25 : σ 25 k = (zBs (zSv σ 1) 12 k : Int)) (h26 : σ 26 k = (if zOk (zSv σ 1) k = true then 1 else 0)) (ho : zOrd σ) (h : zMq σ p k) : zEqA (zSv σ 1) (σ 22) (σ 23) (σ p 0) (fun r => σ (p + r)) (fun j r => σ (45 + 8 * j + r)) k := by
  unfold zEqA
  rw [zBk_A h24 h25 h26 ho]
  show zEqV (zSv σ 1) (σ 22) (σ 23) (fun r => σ (p + r)) k (zBk σ p k) (zTa σ p k)
  obtain ⟨h1, h2⟩ := h
  by_cases o : zOff σ p k
  · obtain ⟨a1, a2, a3, a4, a5, a6⟩ := h1 o
    exact zEqV_off o a1 a2 a3 a4 a5 a6
  · have h2 := h2 o
    by_cases w : zBk σ p k = -1 ∨ zTa σ p k < zBk σ p k
    · obtain ⟨a1, a2, a3, a4, a5, a6⟩ := h2.1 w
      exact zEqV_idle o (Or.inl ⟨rfl, w⟩) a1 a2 a3 a4 a5 a6
    · have h3 := h2.2 w
      by_cases q : zTa σ p k - zBk σ p k < σ 23 k
      · obtain ⟨a1, a2, a3, a4, a5, a6⟩ := h3.1 q
        unfold zStr zOwn at a6
        rw [a5] at a6
        exact zEqV_run o w (Or.inl ⟨rfl, q, rfl⟩) a1 a2 a3 a4 a5 a6
      · have h4 := h3.2 q
        by_cases f : σ 8 (9 * k + 5) = 1 ∧ 0 < σ 23 k
        · obtain ⟨a1, a2, a3, a4, a5, a6⟩ := h4.1 f
          unfold zStr zOwn at a6
          rw [a5] at a6
          exact zEqV_run o w (Or.inr ⟨rfl, q, f, rfl⟩) a1 a2 a3 a4 a5 a6
        · obtain ⟨a1, a2, a3, a4, a5, a6⟩ := h4.2 f
          exact zEqV_idle o (Or.inr ⟨rfl, w, q, f⟩) a1 a2 a3 a4 a5 a6
end MQ
theorem zord_surj (tm : Nat → Int) : ∀ n j, j < n → ∃ i, i < n ∧ zord tm n i = j
  | 0, j, h => by omega
  | n + 1, j, h => by
    have hp := zpos_le tm (zord tm n) (tm n) n
    rcases Nat.lt_or_ge j n with z | z
    · obtain ⟨i, h1, h2⟩ := zord_surj tm n j z
      by_cases q : i < zpos tm (zord tm n) (tm n) n
      · exact ⟨i, by omega, by rw [zord_s, if_pos q]; exact h2⟩
      · exact ⟨i + 1, by omega, by rw [zord_s, if_neg (by omega), if_neg (by omega)]; exact h2⟩
    · exact ⟨zpos tm (zord tm n) (tm n) n, by omega, by rw [zord_s, if_neg (by omega), if_pos rfl, show j = n by omega]⟩
theorem zFilled_is {σ : zSt} {p : Nat} (h : zStage σ) (hf : zFilled σ p) : zIs (zSv σ 1) (σ p 0) (fun r => σ (p + r)) := by
  obtain ⟨⟨l1, l2, l3, l4⟩, hK, hs, ho, hF, hM, h7, hN⟩ := h
  obtain ⟨m1, m2, m3, m4⟩ := hf
  refine ⟨σ 22, σ 23, fun j r => σ (45 + 8 * j + r), l1, fun j hj => ?_, fun k hk => ?_, σ 44, ?_⟩
  · obtain ⟨i, hi, e⟩ := zord_surj (σ 10) (σ 1 8).toNat j hj
    have o := ho i (by omega)
    have e2 : (σ 43 i).toNat = j := by omega
    obtain ⟨f1, f2⟩ := hF i hi
    rw [e2] at f1 f2
    intro k hk
    have b := l2 k hk
    have A := zMq_A b.1 b.2.1 b.2.2 ho (f2.1 k hk)
    rw [f1] at A
    exact A
  · have b := l2 k hk
    exact zMq_A b.1 b.2.1 b.2.2 ho (m1 k hk)
  · obtain ⟨s1, s2⟩ := hs
    have e : (σ 33 6).toNat = zlvs (zSv σ 1) := by rw [s1, Int.toNat_natCast]; rfl
    rw [e] at m2 m4
    exact ⟨s2, m2, m4⟩
/-- the class as it stands between two calls, as far as its Show and its stage go -/
def zOn (σ : zSt) : Prop := zGood σ 1 ∧ zVt (zSv σ 1) ∧ zStage σ
/-- what a look at a time leaves -/
def zAtP (σ σ' : zSt) (t : Int) : Prop := (∀ a, (a < 34 ∨ 42 ≤ a) → σ' a = σ a) ∧ zStage σ' ∧ (∀ k, k < (σ 1 0).toNat → ∀ r, 1 ≤ r → r ≤ 6 → σ' (34 + r) k = zv (zSv σ 1) t r k) ∧ (∀ k, k < (σ 1 0).toNat → σ 2 k = 0 → σ' 41 k = zv (zSv σ 1) t 7 k) ∧ σ' 34 1 = zv (zSv σ 1) t 0 1
theorem zAtP_mk {σ σ' : zSt} {t : Int} (h : zOn σ) (h1 : ∀ a, (a < 34 ∨ 42 ≤ a) → σ' a = σ a) (h2 : zStage σ') (ht : 0 ≤ t ∧ t ≤ 1999) (h3 : σ' 34 0 = min t (σ 33 7)) (h4 : zFilled σ' 34) : zAtP σ σ' t := by
  obtain ⟨hg, hV, hS⟩ := h
  have E : zEqv (zSv σ' 1) (zSv σ 1) := zEqv.of (fun r hr => (h1 (1 + r) (by omega)).symm)
  have I := zIs_eqv (hV.eqv E.sym) E (zFilled_is h2 h4)
  rw [h3] at I
  obtain ⟨⟨l1, l2, l3, l4⟩, hK, hs, ho, hF, hM, h7, hN⟩ := hS
  have c := hg.1
  have I2 : zIs (zSv σ 1) t (fun r => σ' (34 + r)) := by
    by_cases z : t ≤ σ 33 7
    · rw [show min t (σ 33 7) = t by omega] at I; exact I
    · rw [show min t (σ 33 7) = σ 33 7 by omega] at I
      have up : ∀ i q, q < i → σ 10 (σ 43 q).toNat ≤ zsett (σ 21 5) (fun i => σ 10 (σ 43 i).toNat) i := by
        intro i
        induction i with
        | zero => intro q hq; omega
        | succ i ih =>
          intro q hq
          rw [zsett_s]
          rcases Nat.lt_or_ge q i with y | y
          · have := ih q y; omega
          · rw [show q = i by omega]; omega
      have lo : ∀ i, σ 21 5 ≤ zsett (σ 21 5) (fun i => σ 10 (σ 43 i).toNat) i := by
        intro i
        induction i with
        | zero => exact Int.le_refl _
        | succ i ih => rw [zsett_s]; omega
      refine zIs_late hV (s := σ 33 7) (fun j hj => ?_) (fun hN si ac hl => ?_) (Int.le_refl _) (by omega) I
      · obtain ⟨i, hi, e⟩ := zord_surj (σ 10) (σ 1 8).toNat j hj
        have o := ho i (by omega)
        have := up _ i hi
        rw [h7]
        rw [show (σ 43 i).toNat = j by omega] at this
        exact this
      · obtain ⟨⟨d, r, hv⟩, -⟩ := hV
        have u := (zLay_uniq hv hl l1 0 hN).2
        have hN' : 0 < (σ 1 0).toNat := hN
        rw [if_neg (by omega)] at l4
        have := lo (σ 1 8).toNat
        rw [h7]
        show σ 7 0 + ac 0 ≤ _
        omega
  obtain ⟨e1, e2, e3⟩ := zv_eq hV I2
  exact ⟨h1, h2, e1, e2, e3⟩
end
section
theorem zOn.sett {σ : zSt} (h : zOn σ) : 0 ≤ σ 33 7 ∧ σ 33 7 ≤ 2000000000 := by
  obtain ⟨hg, hV, ⟨l1, l2, l3, l4⟩, hK, hs, ho, hF, hM, h7, hN⟩ := h
  have hl : 0 ≤ σ 21 5 ∧ σ 21 5 ≤ 2000000000 := by
    rw [l4]
    split
    · omega
    · next z =>
      have c := hg.1
      have k0 := (hK 0 (by omega)).2.2.2.1
      have u0 : 0 ≤ σ 7 0 ∧ σ 7 0 ≤ 999 := (hg.2.1 0 (by decide)).2.2.2.2.2
      omega
  have := zsett_in' hl.1 (σ 1 8).toNat (fun q hq => ho.tm hg q hq)
  rw [h7]; omega
theorem zOn.pre {σ : zSt} (h : zOn σ) {t : Int} (ht : 0 ≤ t ∧ t ≤ 1999) : zPreF σ 34 t := by
  obtain ⟨hg, hV, ⟨l1, l2, l3, l4⟩, hK, hs, ho, hF, hM, h7, hN⟩ := h
  exact ⟨⟨hg, hM.1, hM.2⟩, ho.in hg, hK, ⟨by decide, Or.inl (by decide)⟩, fun i hi => Or.inl (by omega), ht, hs⟩
theorem zOn.fill {σ σ1 : zSt} (h : zOn σ) {t : Int} (hf : zFillP σ σ1 34 t) : zStage σ1 := by
  obtain ⟨f1, f2, f3, f4⟩ := hf
  obtain ⟨hg, hV, ⟨l1, l2, l3, l4⟩, hK, hs, ho, hF, hM, h7, hN⟩ := h
  have lo : ∀ a, a < 34 → σ1 a = σ a := fun a ha => f1 a (by omega)
  have E : zEqv (zSv σ 1) (zSv σ1 1) := zEqv.of (fun r hr => lo (1 + r) (by omega))
  obtain ⟨⟨d, r, hv⟩, hV2⟩ := hV
  refine ⟨⟨?_, ?_, ?_, ?_⟩, fun k hk => ?_, ?_, ?_, ?_, ⟨f3, fun j hj => ?_⟩, ?_, Or.inr f4⟩
  · rw [lo 22 (by decide), lo 23 (by decide)]; exact E.lay hv l1
  · intro k hk
    rw [lo 1 (by decide)] at hk
    rw [lo 23 (by decide), lo 24 (by decide), lo 25 (by decide), lo 26 (by decide), E.be hv hk, E.bs hv 12 k hk, E.ok hv hk]
    exact l2 k hk
  · rw [lo 26 (by decide)]; exact l3
  · rw [lo 21 (by decide), lo 1 (by decide), lo 7 (by decide), lo 23 (by decide)]; exact l4
  · rw [lo 1 (by decide)] at hk
    exact zKk_eq lo (hK k hk)
  · unfold zStood at *
    rw [lo 33 (by decide), lo 2 (by decide), lo 1 (by decide), f1 44 (by decide)]
    exact ⟨hs.1, E.stand hs.2⟩
  · unfold zOrd
    rw [lo 1 (by decide), lo 10 (by decide), f1 43 (by decide)]; exact ho
  · rw [lo 1 (by decide), lo 10 (by decide), f1 43 (by decide)]
    intro i hi
    have o := ho.in hg i hi
    have hq := hF i hi
    rw [f1 _ (by omega)]
    exact ⟨hq.1, zKp_filled ⟨fun a ha => lo a (by omega), by rw [lo 33 (by decide)], f1 43 (by decide), f1 44 (by decide), fun r hr => f1 _ (by omega), fun i2 _ _ r r1 r2 => f1 _ (by omega)⟩ hq.2⟩
  · have q : ∀ r, r < 8 → σ1 (45 + 8 * j + r) = σ (45 + 8 * j + r) := fun r hr => f1 _ (by omega)
    have := hM.2 j hj
    unfold zMr at *
    rw [q 1 (by decide), q 2 (by decide), q 3 (by decide), q 4 (by decide), q 5 (by decide), q 6 (by decide), q 7 (by decide), show σ1 (45 + 8 * j) = σ (45 + 8 * j) from q 0 (by decide)]
    exact this
  · rw [lo 33 (by decide), lo 1 (by decide), lo 10 (by decide), lo 21 (by decide), f1 43 (by decide)]; exact h7
theorem zAtP.on {σ σ' : zSt} {t : Int} (h : zAtP σ σ' t) (ho : zOn σ) : zOn σ' := by
  have E : zEqv (zSv σ 1) (zSv σ' 1) := zEqv.of (fun r hr => h.1 (1 + r) (by omega))
  exact ⟨zGood_eq (fun r hr => h.1 _ (by omega)) ho.1, ho.2.1.eqv E, h.2.1⟩
theorem c_Sg_at {G : zG} {n : Nat} {σ : zSt} {t : Int} (hn : 189 ≤ n) (ho : zOn σ) (ht : 0 ≤ t ∧ t ≤ 1999) : Gm G y_Sg_at m_Sg_at 4 0 0 [vr G 33, vi t] n SH σ (zO G n SH (fun q σ' => q = 34 ∧ zAtP σ σ' t)) := by
  refine g_enter (L := [(0, _), (1, _)]) (by decide) rfl rfl rfl (Nat.le_of_ble_eq_true rfl) (fun X => ?_)
  have hs := ho.sett
  have r0 : zr (σ 34 0) := ho.2.2.2.2.2.2.2.1.1.1
  refine g_iload_n (i := 1) (by decide +kernel) rfl ?_
  refine g_aload_n (i := 0) (by decide +kernel) rfl ?_
  refine g_geti f_Sg_56 (by decide +kernel) (by omega) rfl rfl ?_
  refine g_min ma_min_Sg_77 (by decide +kernel) ⟨by omega, by omega⟩ ⟨by omega, by omega⟩ (Nat.le_of_ble_eq_true rfl) (by decide) ⟨by decide, by decide⟩ ?_
  refine g_istore_n (i := 2) (L' := [(0, _), (1, _), (2, _)]) (by decide +kernel) rfl rfl ?_
  refine g_aload_n (i := 0) (by decide +kernel) rfl ?_
  refine g_getr f_Sg_12 (by decide +kernel) (by omega) rfl rfl ?_
  refine g_geti f_Sg_43 (by decide +kernel) (by omega) rfl rfl ?_
  refine g_iload_n (i := 2) (by decide +kernel) rfl ?_
  refine g_icmp_eq (off := 12) (tgt := 29) (by decide +kernel) (by decide) r0 ⟨by omega, by omega⟩ (fun h17 => ?_) (fun h17 => ?_)
  · refine g_aload_n (i := 0) (by decide +kernel) rfl ?_
    refine g_getr f_Sg_12 (by decide +kernel) (by omega) rfl rfl ?_
    refine g_retO (by decide +kernel) rfl ⟨by decide, by decide⟩ ?_
    first
      | (have hz : σ 34 0 = min t (σ 33 7) := h17
         refine ⟨rfl, zAtP_mk ho (fun _ _ => rfl) ho.2.2 ht hz ?_⟩
         rcases ho.2.2.2.2.2.2.2.2.2 with z | z
         · omega
         · exact z)
      | exact ⟨rfl, zAtP_mk ho (fun a ha => hf.1 a (by omega)) (ho.fill hf) ht hf.2.1 hf.2.2.2⟩
  · refine g_aload_n (i := 0) (by decide +kernel) rfl ?_
    refine g_aload_n (i := 0) (by decide +kernel) rfl ?_
    refine g_getr f_Sg_12 (by decide +kernel) (by omega) rfl rfl ?_
    refine g_iload_n (i := 2) (by decide +kernel) rfl ?_
    refine g_cVV (st := []) (c_Sg_fill hn mo_34 (ho.pre ⟨by omega, by omega⟩)) k_Sg_fill l_Sg_67 (by decide +kernel) (by omega) rfl rfl rfl rfl (Nat.le_of_ble_eq_true rfl) (by decide) ⟨by decide, by decide⟩ ?_
    rintro σ1 hf
    refine g_aload_n (i := 0) (by decide +kernel) rfl ?_
    refine g_getr f_Sg_12 (by decide +kernel) (by omega) rfl rfl ?_
    refine g_retO (by decide +kernel) rfl ⟨by decide, by decide⟩ ?_
    first
      | (have hz : σ 34 0 = min t (σ 33 7) := h17
         refine ⟨rfl, zAtP_mk ho (fun _ _ => rfl) ho.2.2 ht hz ?_⟩
         rcases ho.2.2.2.2.2.2.2.2.2 with z | z
         · omega
         · exact z)
      | exact ⟨rfl, zAtP_mk ho (fun a ha => hf.1 a (by omega)) (ho.fill hf) ht hf.2.1 hf.2.2.2⟩
/-- the brightest of the first i that stand: (share, clip) -/
def ztp (sh sd : Nat → Int) : Nat → Int × Int
  | 0 => (0, -1)
  | i + 1 => if (ztp sh sd i).1 < sh (sd i).toNat then (sh (sd i).toNat, sd i) else ztp sh sd i
theorem ztp_s (sh sd : Nat → Int) (i : Nat) : ztp sh sd (i + 1) = if (ztp sh sd i).1 < sh (sd i).toNat then (sh (sd i).toNat, sd i) else ztp sh sd i := rfl
theorem ztp_congr {sh sh' sd sd' : Nat → Int} : ∀ i, (∀ j, j < i → sd' j = sd j ∧ sh' (sd j).toNat = sh (sd j).toNat) → ztp sh' sd' i = ztp sh sd i
  | 0, _ => rfl
  | i + 1, h => by rw [ztp_s, ztp_s, ztp_congr i (fun j hj => h j (by omega)), (h i (by omega)).1, (h i (by omega)).2]
/-- the top of S at t -/
def ztopP (S : zSt) (t a : Int) : Prop := ∃ sd, zStand S sd (zlvs S) ∧ a = (ztp (zv S t 7) sd (zlvs S)).2
theorem ztopP_uniq {S : zSt} {t a b : Int} (h : ztopP S t a) (g : ztopP S t b) : a = b := by
  obtain ⟨sd, h1, h2⟩ := h
  obtain ⟨sd', g1, g2⟩ := g
  rw [h2, g2, ztp_congr (sh := zv S t 7) (sd := sd') _ (fun j hj => ⟨zStand_uniq h1 g1 j hj, rfl⟩)]
theorem w_Sg_topAt {G : zG} {X : zX} {n : Nat} {σ τ : zSt} {t : Int} (hn : 189 ≤ n) (hA : zAtP σ τ t) (hO : zOn σ) : ∀ (m : Nat) (i : Nat) (x3 x4 x5 : Int), x5 = (i : Int) → (x3, x4) = ztp (τ 41) (τ 44) i → (0 ≤ x3 ∧ x3 ≤ 100) → i ≤ (τ 33 6).toNat → (τ 33 6).toNat < i + m → Go G X m_Sg_topAt (5, 0, 0, 0, 0) n SH τ 14 [(0, vr G 33), (1, vi t), (2, vr G 34), (3, vi x3), (4, vi x4), (5, vi x5)] [] (zI n SH (fun a σ' => zAtP σ σ' t ∧ ztopP (zSv σ 1) t a)) := by
  intro m
  induction m with
  | zero => intro i x3 x4 x5 e5 e3 hx hi hm; exact absurd hm (by omega)
  | succ m ih =>
    intro i x3 x4 x5 e5 e3 hx hi hm
    have hT := hA.on hO
    have sN := hT.2.2.2.2.1
    have zc := zcnt_le (fun j => decide (τ 2 j = 0)) (τ 1 0).toNat
    have hc : 0 ≤ τ 1 0 ∧ τ 1 0 ≤ 12 := ⟨hT.1.1.1, hT.1.1.2.1⟩
    have s6 : τ 33 6 = (zcnt (fun j => decide (τ 2 j = 0)) (τ 1 0).toNat : Int) := sN.1
    subst e5
    refine g_iload (i := 5) (by decide +kernel) rfl ?_
    refine g_aload_n (i := 0) (by decide +kernel) rfl ?_
    refine g_geti f_Sg_87 (by decide +kernel) (by omega) rfl rfl ?_
    refine g_icmp_ge (off := 47) (tgt := 67) (by decide +kernel) (by decide) ⟨by omega, by omega⟩ ⟨by omega, by omega⟩ (fun h20 => ?_) (fun h20 => ?_)
    · refine g_iload (i := 4) (by decide +kernel) rfl ?_
      refine g_retI (by decide +kernel) rfl (Or.inl rfl) ⟨by decide, by decide⟩ ?_
      refine ⟨hA, σ 44, hO.2.2.2.2.1.2, ?_⟩
      have e2 : τ 2 = σ 2 := hA.1 2 (by decide)
      have e1 : τ 1 = σ 1 := hA.1 1 (by decide)
      have e44 : τ 44 = σ 44 := hA.1 44 (by decide)
      have eN : (τ 33 6).toNat = zlvs (zSv σ 1) := by rw [s6, Int.toNat_natCast, e2, e1]; rfl
      rw [show i = zlvs (zSv σ 1) by omega] at e3
      have h2 := congrArg Prod.snd e3
      rw [ztp_congr (sh := zv (zSv σ 1) t 7) (sd := σ 44) _ (fun j hj => ⟨by rw [e44], ?_⟩)] at h2
      · exact h2
      · have st := hO.2.2.2.2.1.2 j hj
        exact hA.2.2.2.1 _ st.2.1 st.2.2.1
    · have st := sN.2 i (by omega)
      have s1 : (τ 44 i).toNat < (τ 1 0).toNat := st.2.1
      have sh := (hT.2.2.2.2.2.2.2.1.1.2 (τ 44 i).toNat (by omega)).2.2.2.2.2.2
      have sh : 0 ≤ τ 41 (τ 44 i).toNat ∧ τ 41 (τ 44 i).toNat ≤ 100 := sh
      have hst : 0 ≤ τ 44 i := st.1
      refine g_aload_n (i := 2) (by decide +kernel) rfl ?_
      refine g_getr f_Sg_90 (by decide +kernel) (by omega) rfl rfl ?_
      refine g_aload_n (i := 0) (by decide +kernel) rfl ?_
      refine g_getr f_Sg_26 (by decide +kernel) (by omega) rfl rfl ?_
      refine g_iload (i := 5) (by decide +kernel) rfl ?_
      refine g_iald (j := i) (by decide +kernel) (by omega) rfl rfl (by omega) (by decide) ?_
      refine g_iald (j := (τ 44 i).toNat) (by decide +kernel) (by omega) rfl (by omega) (by omega) (by decide) ?_
      refine g_iload_n (i := 3) (by decide +kernel) rfl ?_
      refine g_icmp_le (off := 25) (tgt := 61) (by decide +kernel) (by decide) ⟨by omega, by omega⟩ ⟨by omega, by omega⟩ (fun h36 => ?_) (fun h36 => ?_)
      · have e3 : (x3, x4) = ztp (τ 41) (τ 44) (i + 1) := by rw [ztp_s, ← e3, if_neg (show ¬ x3 < τ 41 (τ 44 i).toNat by omega)]
        refine g_iinc (i := 5) (b := 1) (L' := [(0, _), (1, _), (2, _), (3, _), (4, _), (5, _)]) (by decide +kernel) rfl rfl rfl ?_
        refine g_goto (off := -50) (tgt := 14) (by decide +kernel) (by decide) ?_
        exact ih (i + 1) _ _ _ (by push_cast; rfl) e3 hx (by omega) (by omega)
      · have e3 : (τ 41 (τ 44 i).toNat, τ 44 i) = ztp (τ 41) (τ 44) (i + 1) := by rw [ztp_s, ← e3, if_pos h36]
        have hx := sh
        refine g_aload_n (i := 2) (by decide +kernel) rfl ?_
        refine g_getr f_Sg_90 (by decide +kernel) (by omega) rfl rfl ?_
        refine g_aload_n (i := 0) (by decide +kernel) rfl ?_
        refine g_getr f_Sg_26 (by decide +kernel) (by omega) rfl rfl ?_
        refine g_iload (i := 5) (by decide +kernel) rfl ?_
        refine g_iald (j := i) (by decide +kernel) (by omega) rfl rfl (by omega) (by decide) ?_
        refine g_iald (j := (τ 44 i).toNat) (by decide +kernel) (by omega) rfl (by omega) (by omega) (by decide) ?_
        refine g_istore_n (i := 3) (L' := [(0, _), (1, _), (2, _), (3, _), (4, _), (5, _)]) (by decide +kernel) rfl rfl ?_
        refine g_aload_n (i := 0) (by decide +kernel) rfl ?_
        refine g_getr f_Sg_26 (by decide +kernel) (by omega) rfl rfl ?_
        refine g_iload (i := 5) (by decide +kernel) rfl ?_
        refine g_iald (j := i) (by decide +kernel) (by omega) rfl rfl (by omega) (by decide) ?_
        refine g_istore (i := 4) (L' := [(0, _), (1, _), (2, _), (3, _), (4, _), (5, _)]) (by decide +kernel) rfl rfl ?_
        refine g_iinc (i := 5) (b := 1) (L' := [(0, _), (1, _), (2, _), (3, _), (4, _), (5, _)]) (by decide +kernel) rfl rfl rfl ?_
        refine g_goto (off := -50) (tgt := 14) (by decide +kernel) (by decide) ?_
        exact ih (i + 1) _ _ _ (by push_cast; rfl) e3 hx (by omega) (by omega)
theorem c_Sg_topAt {G : zG} {n : Nat} {σ : zSt} {t : Int} (hn : 189 ≤ n) (ho : zOn σ) (ht : 0 ≤ t ∧ t ≤ 1999) : Gm G y_Sg_topAt m_Sg_topAt 5 0 0 [vr G 33, vi t] n SH σ (zI n SH (fun a σ' => zAtP σ σ' t ∧ ztopP (zSv σ 1) t a)) := by
  refine g_enter (L := [(0, _), (1, _)]) (by decide) rfl rfl rfl (Nat.le_of_ble_eq_true rfl) (fun X => ?_)
  refine g_aload_n (i := 0) (by decide +kernel) rfl ?_
  refine g_iload_n (i := 1) (by decide +kernel) rfl ?_
  refine g_cVO (st := []) (c_Sg_at hn ho ht) k_Sg_at l_Sg_83 (by decide +kernel) (by omega) rfl rfl rfl rfl (Nat.le_of_ble_eq_true rfl) (by decide) ⟨by decide, by decide⟩ ?_
  rintro q τ ⟨eq, hA⟩
  subst eq
  refine g_astore_n (i := 2) (L' := [(0, _), (1, _), (2, _)]) (by decide +kernel) rfl rfl ?_
  refine g_iconst (a := 0) (by decide +kernel) ?_
  refine g_istore_n (i := 3) (L' := [(0, _), (1, _), (2, _), (3, _)]) (by decide +kernel) rfl rfl ?_
  refine g_iconst (a := -1) (by decide +kernel) ?_
  refine g_istore (i := 4) (L' := [(0, _), (1, _), (2, _), (3, _), (4, _)]) (by decide +kernel) rfl rfl ?_
  refine g_iconst (a := 0) (by decide +kernel) ?_
  refine g_istore (i := 5) (L' := [(0, _), (1, _), (2, _), (3, _), (4, _), (5, _)]) (by decide +kernel) rfl rfl ?_
  exact w_Sg_topAt hn hA ho 13 0 _ _ _ rfl rfl (by omega) (by omega) (by have hT := hA.on ho; have s6 : τ 33 6 = (zcnt (fun j => decide (τ 2 j = 0)) (τ 1 0).toNat : Int) := hT.2.2.2.2.1.1; have zc := zcnt_le (fun j => decide (τ 2 j = 0)) (τ 1 0).toNat; have := hT.1.1; omega)
end
section
/-! THE PAST (95: next 1, many 2; the Shows at 97 + 10 i) -/
theorem sw_at : ∀ j : Nat, j < 8 → zSw SH (97 + 10 * j) := by
  intro j hj
  rcases (by omega : j = 0 ∨ j = 1 ∨ j = 2 ∨ j = 3 ∨ j = 4 ∨ j = 5 ∨ j = 6 ∨ j = 7) with rfl | rfl | rfl | rfl | rfl | rfl | rfl | rfl
  · exact sh_97
  · exact sh_107
  · exact sh_117
  · exact sh_127
  · exact sh_137
  · exact sh_147
  · exact sh_157
  · exact sh_167
def zKeep (σ σ' : zSt) : Prop := ∃ τ, zCopy σ τ (97 + 10 * (σ 95 1).toNat) 1 ∧ σ' = zs (zs τ 95 1 ((σ 95 1 + 1) % 8)) 95 2 (min (σ 95 2 + 1) 8)
def zBack (σ σ' : zSt) : Prop := ∃ τ, zCopy (zs σ 95 1 ((σ 95 1 + 7) % 8)) τ 1 (97 + 10 * ((σ 95 1 + 7) % 8).toNat) ∧ σ' = zs τ 95 2 (σ 95 2 - 1)
theorem c_Pa_keep {G : zG} {n : Nat} {σ : zSt} (hn : 189 ≤ n) (h1 : 0 ≤ σ 95 1 ∧ σ 95 1 < 8) (h2 : 0 ≤ σ 95 2 ∧ σ 95 2 ≤ 8) : Gm G y_Pa_keep m_Pa_keep 2 0 0 [vr G 95, vr G 1] n SH σ (zV n SH (fun σ' => zKeep σ σ')) := by
  refine g_enter (L := [(0, _), (1, _)]) (by decide) rfl rfl rfl (Nat.le_of_ble_eq_true rfl) (fun X => ?_)
  obtain ⟨j, ej⟩ := Int.eq_ofNat_of_zero_le h1.1
  have hj : j < 8 := by omega
  have ej2 : (σ 95 1).toNat = j := by omega
  refine g_aload_n (i := 0) (by decide +kernel) rfl ?_
  refine g_getr f_Pa_11 (by decide +kernel) (by omega) rfl rfl ?_
  refine g_aload_n (i := 0) (by decide +kernel) rfl ?_
  refine g_geti f_Pa_18 (by decide +kernel) (by omega) rfl rfl ?_
  refine g_aald (CN := "") (j := j) (by decide +kernel) (by omega) rfl (Or.inl rfl) ej (by omega) (by decide) rfl ?_
  refine g_aload_n (i := 1) (by decide +kernel) rfl ?_
  refine g_cVV (st := []) (c_Sh_copyFrom (b := 97 + 10 * j) (f := 1) hn (sw_at j hj) sh_1 (Or.inr (by omega))) k_Sh_copyFrom l_Pa_22 (by decide +kernel) (by omega) (sw_at j hj).a0 rfl rfl rfl (Nat.le_of_ble_eq_true rfl) (by decide) ⟨by decide, by decide⟩ ?_
  rintro τ hc
  have e1 : τ 95 1 = σ 95 1 := by rw [hc.2.2.2.2.2 95 (by omega)]
  have e2 : τ 95 2 = σ 95 2 := by rw [hc.2.2.2.2.2 95 (by omega)]
  refine g_aload_n (i := 0) (by decide +kernel) rfl ?_
  refine g_aload_n (i := 0) (by decide +kernel) rfl ?_
  refine g_geti f_Pa_18 (by decide +kernel) (by omega) rfl rfl ?_
  refine g_iconst (a := 1) (by decide +kernel) ?_
  refine g_iadd (by decide +kernel) ?_
  refine g_bipush (a := 8) (by decide +kernel) (by decide) ?_
  refine g_irem (by decide +kernel) ⟨by rw [e1]; omega, by rw [e1]; omega, by omega, by omega⟩ ?_
  refine g_puti f_Pa_18 (by decide +kernel) (by omega) rfl rfl ?_
  refine g_aload_n (i := 0) (by decide +kernel) rfl ?_
  refine g_aload_n (i := 0) (by decide +kernel) rfl ?_
  refine g_geti f_Pa_26 (by decide +kernel) (by omega) rfl rfl ?_
  refine g_iconst (a := 1) (by decide +kernel) ?_
  refine g_iadd (by decide +kernel) ?_
  refine g_bipush (a := 8) (by decide +kernel) (by decide) ?_
  have e3 : zs τ 95 1 ((τ 95 1 + 1) % 8) 95 2 = σ 95 2 := by rw [zs_row, zu_ne (by decide), e2]
  refine g_min ma_min_Pa_29 (by decide +kernel) ⟨by rw [e3]; omega, by rw [e3]; omega⟩ ⟨by omega, by omega⟩ (Nat.le_of_ble_eq_true rfl) (by decide) ⟨by decide, by decide⟩ ?_
  refine g_puti f_Pa_26 (by decide +kernel) (by omega) rfl rfl ?_
  refine g_retV (by decide +kernel) rfl ⟨by decide, by decide⟩ ?_
  exact ⟨τ, by rw [ej2]; exact hc, by rw [e3, e1]⟩
theorem c_Pa_bringBack {G : zG} {n : Nat} {σ : zSt} (hn : 189 ≤ n) (h1 : 0 ≤ σ 95 1 ∧ σ 95 1 < 8) (h2 : 0 ≤ σ 95 2 ∧ σ 95 2 ≤ 8) : Gm G y_Pa_bringBack m_Pa_bringBack 2 0 0 [vr G 95, vr G 1] n SH σ (zV n SH (fun σ' => zBack σ σ')) := by
  refine g_enter (L := [(0, _), (1, _)]) (by decide) rfl rfl rfl (Nat.le_of_ble_eq_true rfl) (fun X => ?_)
  have e0 : σ 95 1 + 8 - 1 = σ 95 1 + 7 := by omega
  obtain ⟨j, ej⟩ := Int.eq_ofNat_of_zero_le (show 0 ≤ (σ 95 1 + 7) % 8 by omega)
  have hj : j < 8 := by omega
  have ej2 : ((σ 95 1 + 7) % 8).toNat = j := by omega
  refine g_aload_n (i := 0) (by decide +kernel) rfl ?_
  refine g_aload_n (i := 0) (by decide +kernel) rfl ?_
  refine g_geti f_Pa_18 (by decide +kernel) (by omega) rfl rfl ?_
  refine g_bipush (a := 8) (by decide +kernel) (by decide) ?_
  refine g_iadd (by decide +kernel) ?_
  refine g_iconst (a := 1) (by decide +kernel) ?_
  refine g_isub (by decide +kernel) ?_
  refine g_bipush (a := 8) (by decide +kernel) (by decide) ?_
  refine g_irem (by decide +kernel) ⟨by omega, by omega, by omega, by omega⟩ ?_
  refine g_puti f_Pa_18 (by decide +kernel) (by omega) rfl rfl ?_
  refine g_aload_n (i := 1) (by decide +kernel) rfl ?_
  refine g_aload_n (i := 0) (by decide +kernel) rfl ?_
  refine g_getr f_Pa_11 (by decide +kernel) (by omega) rfl rfl ?_
  refine g_aload_n (i := 0) (by decide +kernel) rfl ?_
  refine g_geti f_Pa_18 (by decide +kernel) (by omega) rfl rfl ?_
  refine g_aald (CN := "") (j := j) (by decide +kernel) (by omega) rfl (Or.inl rfl) (by rw [zs_eq, e0]; exact ej) (by omega) (by decide) rfl ?_
  rw [e0]
  refine g_cVV (st := []) (c_Sh_copyFrom (b := 1) (f := 97 + 10 * j) hn sh_1 (sw_at j hj) (Or.inl (by omega))) k_Sh_copyFrom l_Pa_22 (by decide +kernel) (by omega) rfl rfl rfl rfl (Nat.le_of_ble_eq_true rfl) (by decide) ⟨by decide, by decide⟩ ?_
  rintro τ hc
  have e2 : τ 95 2 = σ 95 2 := by rw [hc.2.2.2.2.2 95 (by omega), zs_row, zu_ne (by decide)]
  refine g_aload_n (i := 0) (by decide +kernel) rfl ?_
  refine g_dup (by decide +kernel) rfl ?_
  refine g_geti f_Pa_26 (by decide +kernel) (by omega) rfl rfl ?_
  refine g_iconst (a := 1) (by decide +kernel) ?_
  refine g_isub (by decide +kernel) ?_
  refine g_puti f_Pa_26 (by decide +kernel) (by omega) rfl rfl ?_
  refine g_retV (by decide +kernel) rfl ⟨by decide, by decide⟩ ?_
  exact ⟨τ, by rw [ej2]; exact hc, by rw [e2]⟩
/-! THE REEL (182: time 0, events 1; rows 183 kind, 184 when, 185 clip, 186 local, 187 played ahead, 188 pass ahead) -/
abbrev zE4 : Type := Int × Int × Int × Int
def zL4 (L : List zE4) (i : Nat) : zE4 := (L[i]?).getD (0, 0, 0, 0)
def zRp (σ : zSt) (L : List zE4) : Prop := σ 182 1 = (L.length : Int) ∧ ∀ i, i < 64 → i < L.length → σ 183 i = (zL4 L i).1 ∧ σ 184 i = (zL4 L i).2.1 ∧ σ 185 i = (zL4 L i).2.2.1 ∧ σ 186 i = (zL4 L i).2.2.2
theorem zL4_l {L : List zE4} {x : zE4} {i : Nat} (h : i < L.length) : zL4 (L ++ [x]) i = zL4 L i := by
  unfold zL4
  rw [List.getElem?_append_left h]
theorem zL4_r {L : List zE4} {x : zE4} : zL4 (L ++ [x]) L.length = x := by
  unfold zL4
  rw [List.getElem?_append_right (Nat.le_refl _), Nat.sub_self]
  rfl
theorem zlen1 (L : List zE4) (x : zE4) : (L ++ [x]).length = L.length + 1 := by rw [List.length_append]; rfl
def zKE (σ : zSt) (x y w : Int) : zSt := zs (zs (zs (zs σ 183 (σ 182 1).toNat x) 184 (σ 182 1).toNat (σ 182 0)) 185 (σ 182 1).toNat y) 186 (σ 182 1).toNat w
theorem zKE_1 {σ : zSt} {L : List zE4} {x y w : Int} (h : zRp σ L) (hl : σ 182 1 < 64) : zRp (zs (zKE σ x y w) 182 1 (σ 182 1 + 1)) (L ++ [((x, σ 182 0, y, w) : Int × Int × Int × Int)]) := by
  obtain ⟨h1, h2⟩ := h
  have e : (σ 182 1).toNat = L.length := by omega
  have r0 : ∀ a, a ≠ 182 → a ≠ 183 → a ≠ 184 → a ≠ 185 → a ≠ 186 → zKE σ x y w a = σ a := fun a _ b1 b2 b3 b4 => by unfold zKE; rw [zs_other b4, zs_other b3, zs_other b2, zs_other b1]
  have r3 : zs (zKE σ x y w) 182 1 (σ 182 1 + 1) 183 = zu (σ 183) (σ 182 1).toNat x := by unfold zKE; rw [zs_other (by decide), zs_other (by decide), zs_other (by decide), zs_other (by decide), zs_row]
  have r4 : zs (zKE σ x y w) 182 1 (σ 182 1 + 1) 184 = zu (σ 184) (σ 182 1).toNat (σ 182 0) := by unfold zKE; rw [zs_other (by decide), zs_other (by decide), zs_other (by decide), zs_row, zs_other (by decide)]
  have r5 : zs (zKE σ x y w) 182 1 (σ 182 1 + 1) 185 = zu (σ 185) (σ 182 1).toNat y := by unfold zKE; rw [zs_other (by decide), zs_other (by decide), zs_row, zs_other (by decide), zs_other (by decide)]
  have r6 : zs (zKE σ x y w) 182 1 (σ 182 1 + 1) 186 = zu (σ 186) (σ 182 1).toNat w := by unfold zKE; rw [zs_other (by decide), zs_row, zs_other (by decide), zs_other (by decide), zs_other (by decide)]
  refine ⟨by rw [zs_eq, zlen1, h1]; push_cast; rfl, fun i hi hL => ?_⟩
  rw [zlen1] at hL
  rw [r3, r4, r5, r6, e]
  by_cases z : i = L.length
  · rw [z, zu_eq, zu_eq, zu_eq, zu_eq, zL4_r]; exact ⟨rfl, rfl, rfl, rfl⟩
  · rw [zu_ne z, zu_ne z, zu_ne z, zu_ne z, zL4_l (by omega)]; exact h2 i hi (by omega)
theorem zKE_0 {σ : zSt} {L : List zE4} {x : zE4} (h : zRp σ L) (hl : 64 ≤ σ 182 1) : zRp (zs σ 182 1 (σ 182 1 + 1)) (L ++ [x]) := by
  obtain ⟨h1, h2⟩ := h
  refine ⟨by rw [zs_eq, zlen1, h1]; push_cast; rfl, fun i hi hL => ?_⟩
  rw [zs_other (by decide), zs_other (by decide), zs_other (by decide), zs_other (by decide), zL4_l (by omega)]
  exact h2 i hi (by omega)
/-- the reel alone has changed, and only in its events -/
def zRf (σ σ' : zSt) : Prop := (∀ a, (a < 182 ∨ 187 ≤ a) → σ' a = σ a) ∧ σ' 182 0 = σ 182 0
theorem zRf.rf (σ : zSt) : zRf σ σ := ⟨fun _ _ => rfl, rfl⟩
theorem zRf.tr {σ τ υ : zSt} (h : zRf σ τ) (g : zRf τ υ) : zRf σ υ := ⟨fun a ha => (g.1 a ha).trans (h.1 a ha), g.2.trans h.2⟩
theorem c_Re_rewind {G : zG} {n : Nat} {σ : zSt} (hn : 189 ≤ n) : Gm G y_Re_rewind m_Re_rewind 0 0 0 [vr G 182] n SH σ (zV n SH (fun σ' => σ' = zs (zs σ 182 0 0) 182 1 0)) := by
  refine g_enter (L := [(0, _)]) (by decide) rfl rfl rfl (Nat.le_of_ble_eq_true rfl) (fun X => ?_)
  refine g_aload_n (i := 0) (by decide +kernel) rfl ?_
  refine g_iconst (a := 0) (by decide +kernel) ?_
  refine g_puti f_Re_31 (by decide +kernel) (by omega) rfl rfl ?_
  refine g_aload_n (i := 0) (by decide +kernel) rfl ?_
  refine g_iconst (a := 0) (by decide +kernel) ?_
  refine g_puti f_Re_35 (by decide +kernel) (by omega) rfl rfl ?_
  refine g_retV (by decide +kernel) rfl ⟨by decide, by decide⟩ ?_
  exact rfl
theorem c_Re_keepEvent {G : zG} {n : Nat} {σ : zSt} {x y w : Int} {L : List zE4} (hn : 189 ≤ n) (hL : zRp σ L) (hl : L.length ≤ 5000) : Gm G y_Re_keepEvent m_Re_keepEvent 0 0 0 [vr G 182, vi x, vi y, vi w] n SH σ (zV n SH (fun σ' => zRf σ σ' ∧ zRp σ' (L ++ [((x, σ 182 0, y, w) : Int × Int × Int × Int)]))) := by
  refine g_enter (L := [(0, _), (1, _), (2, _), (3, _)]) (by decide) rfl rfl rfl (Nat.le_of_ble_eq_true rfl) (fun X => ?_)
  have h1 := hL.1
  have ee : ((σ 182 1).toNat : Int) = σ 182 1 := by omega
  refine g_aload_n (i := 0) (by decide +kernel) rfl ?_
  refine g_geti f_Re_35 (by decide +kernel) (by omega) rfl rfl ?_
  refine g_bipush (a := 64) (by decide +kernel) (by decide) ?_
  refine g_icmp_ge (off := 46) (tgt := 52) (by decide +kernel) (by decide) ⟨by omega, by omega⟩ ⟨by omega, by omega⟩ (fun h6 => ?_) (fun h6 => ?_)
  · refine g_aload_n (i := 0) (by decide +kernel) rfl ?_
    refine g_dup (by decide +kernel) rfl ?_
    refine g_geti f_Re_35 (by decide +kernel) (by omega) rfl rfl ?_
    refine g_iconst (a := 1) (by decide +kernel) ?_
    refine g_iadd (by decide +kernel) ?_
    refine g_puti f_Re_35 (by decide +kernel) (by omega) rfl rfl ?_
    refine g_retV (by decide +kernel) rfl ⟨by decide, by decide⟩ ?_
    first
      | (have hz : 64 ≤ σ 182 1 := h6
         exact ⟨⟨fun a ha => zs_other (by omega), by rw [zs_row, zu_ne (by decide)]⟩, zKE_0 hL hz⟩)
      | (have k2 : ∀ a, a ≠ 183 → a ≠ 184 → a ≠ 185 → a ≠ 186 → zKE σ x y w a = σ a := fun a b1 b2 b3 b4 => by unfold zKE; rw [zs_other b4, zs_other b3, zs_other b2, zs_other b1]
         have r : zs (zKE σ x y w) 182 1 (zKE σ x y w 182 1 + 1) = zs (zKE σ x y w) 182 1 (σ 182 1 + 1) := by rw [k2 182 (by decide) (by decide) (by decide) (by decide)]
         refine ⟨⟨fun a ha => ?_, ?_⟩, ?_⟩
         · exact (zs_other (by omega)).trans (k2 a (by omega) (by omega) (by omega) (by omega))
         · show zs (zKE σ x y w) 182 1 _ 182 0 = _
           rw [zs_row, zu_ne (by decide), k2 182 (by decide) (by decide) (by decide) (by decide)]
         · show zRp (zs (zKE σ x y w) 182 1 (zKE σ x y w 182 1 + 1)) _
           rw [r]
           exact zKE_1 hL (by omega))
  · refine g_aload_n (i := 0) (by decide +kernel) rfl ?_
    refine g_getr f_Re_9 (by decide +kernel) (by omega) rfl rfl ?_
    refine g_aload_n (i := 0) (by decide +kernel) rfl ?_
    refine g_geti f_Re_35 (by decide +kernel) (by omega) rfl rfl ?_
    refine g_iload_n (i := 1) (by decide +kernel) rfl ?_
    refine g_iast (j := (σ 182 1).toNat) (by decide +kernel) (by omega) rfl ee.symm (by omega) (by decide) ?_
    refine g_aload_n (i := 0) (by decide +kernel) rfl ?_
    refine g_getr f_Re_15 (by decide +kernel) (by omega) rfl rfl ?_
    refine g_aload_n (i := 0) (by decide +kernel) rfl ?_
    refine g_geti f_Re_35 (by decide +kernel) (by omega) rfl rfl ?_
    refine g_aload_n (i := 0) (by decide +kernel) rfl ?_
    refine g_geti f_Re_31 (by decide +kernel) (by omega) rfl rfl ?_
    refine g_iast (j := (σ 182 1).toNat) (by decide +kernel) (by omega) rfl (by rw [zs_other (by decide)]; exact ee.symm) (by omega) (by decide) ?_
    refine g_aload_n (i := 0) (by decide +kernel) rfl ?_
    refine g_getr f_Re_18 (by decide +kernel) (by omega) rfl rfl ?_
    refine g_aload_n (i := 0) (by decide +kernel) rfl ?_
    refine g_geti f_Re_35 (by decide +kernel) (by omega) rfl rfl ?_
    refine g_iload_n (i := 2) (by decide +kernel) rfl ?_
    refine g_iast (j := (σ 182 1).toNat) (by decide +kernel) (by omega) rfl (by rw [zs_other (by decide), zs_other (by decide)]; exact ee.symm) (by omega) (by decide) ?_
    refine g_aload_n (i := 0) (by decide +kernel) rfl ?_
    refine g_getr f_Re_21 (by decide +kernel) (by omega) rfl rfl ?_
    refine g_aload_n (i := 0) (by decide +kernel) rfl ?_
    refine g_geti f_Re_35 (by decide +kernel) (by omega) rfl rfl ?_
    refine g_iload_n (i := 3) (by decide +kernel) rfl ?_
    refine g_iast (j := (σ 182 1).toNat) (by decide +kernel) (by omega) rfl (by rw [zs_other (by decide), zs_other (by decide), zs_other (by decide)]; exact ee.symm) (by omega) (by decide) ?_
    refine g_aload_n (i := 0) (by decide +kernel) rfl ?_
    refine g_dup (by decide +kernel) rfl ?_
    refine g_geti f_Re_35 (by decide +kernel) (by omega) rfl rfl ?_
    refine g_iconst (a := 1) (by decide +kernel) ?_
    refine g_iadd (by decide +kernel) ?_
    refine g_puti f_Re_35 (by decide +kernel) (by omega) rfl rfl ?_
    refine g_retV (by decide +kernel) rfl ⟨by decide, by decide⟩ ?_
    first
      | (have hz : 64 ≤ σ 182 1 := h6
         exact ⟨⟨fun a ha => zs_other (by omega), by rw [zs_row, zu_ne (by decide)]⟩, zKE_0 hL hz⟩)
      | (have k2 : ∀ a, a ≠ 183 → a ≠ 184 → a ≠ 185 → a ≠ 186 → zKE σ x y w a = σ a := fun a b1 b2 b3 b4 => by unfold zKE; rw [zs_other b4, zs_other b3, zs_other b2, zs_other b1]
         have r : zs (zKE σ x y w) 182 1 (zKE σ x y w 182 1 + 1) = zs (zKE σ x y w) 182 1 (σ 182 1 + 1) := by rw [k2 182 (by decide) (by decide) (by decide) (by decide)]
         refine ⟨⟨fun a ha => ?_, ?_⟩, ?_⟩
         · exact (zs_other (by omega)).trans (k2 a (by omega) (by omega) (by omega) (by omega))
         · show zs (zKE σ x y w) 182 1 _ 182 0 = _
           rw [zs_row, zu_ne (by decide), k2 182 (by decide) (by decide) (by decide) (by decide)]
         · show zRp (zs (zKE σ x y w) 182 1 (zKE σ x y w 182 1 + 1)) _
           rw [r]
           exact zKE_1 hL (by omega))
/-- the event of a clip, if there is one: from its state, local and pass, and what was ahead -/
def zev1 (w : Int) (k : Nat) (st lo pa : Int) (pl : Bool) (pp : Int) : List zE4 := if st = 2 ∧ pl = false then [((0, w, (k : Int), lo) : Int × Int × Int × Int)] else if st ≠ 2 ∧ pl = true then [((1, w, (k : Int), -1) : Int × Int × Int × Int)] else if st = 2 ∧ pa ≠ pp then [((2, w, (k : Int), lo) : Int × Int × Int × Int)] else []
theorem zev1_len (w : Int) (k : Nat) (st lo pa : Int) (pl : Bool) (pp : Int) : (zev1 w k st lo pa pl pp).length ≤ 1 := by
  unfold zev1
  split
  · exact Nat.le_refl 1
  · split
    · exact Nat.le_refl 1
    · split
      · exact Nat.le_refl 1
      · exact Nat.zero_le 1
theorem c_Re_noteEvent {G : zG} {n : Nat} {σ : zSt} {k : Nat} {L : List zE4} (hn : 189 ≤ n) (hk : k < 12) (hL : zRp σ L) (hl : L.length ≤ 5000) (s1 : 0 ≤ σ 35 k ∧ σ 35 k ≤ 4) (s7 : σ 187 k = 0 ∨ σ 187 k = 1) (s3 : zr (σ 37 k)) (s8 : zr (σ 188 k)) : Gm G y_Re_noteEvent m_Re_noteEvent 1 0 0 [vr G 182, vr G 34, vi k] n SH σ (zV n SH (fun σ' => zRf σ σ' ∧ zRp σ' (L ++ zev1 (σ 182 0) k (σ 35 k) (σ 36 k) (σ 37 k) (decide (σ 187 k = 1)) (σ 188 k)))) := by
  refine g_enter (L := [(0, _), (1, _), (2, _)]) (by decide) rfl rfl rfl (Nat.le_of_ble_eq_true rfl) (fun X => ?_)
  refine g_aload_n (i := 1) (by decide +kernel) rfl ?_
  refine g_getr f_Re_55 (by decide +kernel) (by omega) rfl rfl ?_
  refine g_iload_n (i := 2) (by decide +kernel) rfl ?_
  refine g_iald (by decide +kernel) (by omega) rfl rfl (by omega) (by decide) ?_
  refine g_iconst (a := 2) (by decide +kernel) ?_
  refine g_icmp_ne (off := 7) (tgt := 14) (by decide +kernel) (by decide) ⟨by omega, by omega⟩ ⟨by omega, by omega⟩ (fun h7 => ?_) (fun h7 => ?_)
  · refine g_iconst (a := 0) (by decide +kernel) ?_
    refine g_istore_n (i := 3) (L' := [(0, _), (1, _), (2, _), (3, _)]) (by decide +kernel) rfl rfl ?_
    refine g_iload_n (i := 3) (by decide +kernel) rfl ?_
    refine g_if_eq (off := 27) (tgt := 44) (by decide +kernel) (by decide) ⟨by omega, by omega⟩ (fun h17 => ?_) (fun h17 => ?_)
    · refine g_iload_n (i := 3) (by decide +kernel) rfl ?_
      refine g_if_ne (off := 22) (tgt := 67) (by decide +kernel) (by decide) ⟨by omega, by omega⟩ (fun h45 => ?_) (fun h45 => ?_)
      · refine g_iload_n (i := 3) (by decide +kernel) rfl ?_
        refine g_if_eq (off := 30) (tgt := 98) (by decide +kernel) (by decide) ⟨by omega, by omega⟩ (fun h68 => ?_) (fun h68 => ?_)
        · refine g_retV (by decide +kernel) rfl ⟨by decide, by decide⟩ ?_
          first
            | (have hz : zRp σ1 (L ++ [((0, σ 182 0, (k : Int), σ 36 k) : Int × Int × Int × Int)]) := hr
               exact ⟨hf, by unfold zev1; rw [if_pos ⟨by omega, decide_eq_false (by omega)⟩]; exact hz⟩)
            | (have hz : zRp σ1 (L ++ [((1, σ 182 0, (k : Int), -1) : Int × Int × Int × Int)]) := hr
               exact ⟨hf, by unfold zev1; rw [if_neg (fun q => by have := q.1; omega), if_pos ⟨by omega, decide_eq_true (by omega)⟩]; exact hz⟩)
            | (have hz : zRp σ1 (L ++ [((2, σ 182 0, (k : Int), σ 36 k) : Int × Int × Int × Int)]) := hr
               exact ⟨hf, by unfold zev1; rw [if_neg (fun q => by have := of_decide_eq_false q.2; omega), if_neg (fun q => by have := q.1; omega), if_pos ⟨by omega, by omega⟩]; exact hz⟩)
            | (have e0 : zev1 (σ 182 0) k (σ 35 k) (σ 36 k) (σ 37 k) (decide (σ 187 k = 1)) (σ 188 k) = [] := by
                 unfold zev1
                 rw [if_neg (fun q => by have := of_decide_eq_false q.2; omega), if_neg (fun q => by have := of_decide_eq_true q.2; omega), if_neg (fun q => by omega)]
               exact ⟨zRf.rf σ, by rw [e0, List.append_nil]; exact hL⟩)
        · refine g_aload_n (i := 1) (by decide +kernel) rfl ?_
          refine g_getr f_Re_60 (by decide +kernel) (by omega) rfl rfl ?_
          refine g_iload_n (i := 2) (by decide +kernel) rfl ?_
          refine g_iald (by decide +kernel) (by omega) rfl rfl (by omega) (by decide) ?_
          refine g_aload_n (i := 0) (by decide +kernel) rfl ?_
          refine g_getr f_Re_28 (by decide +kernel) (by omega) rfl rfl ?_
          refine g_iload_n (i := 2) (by decide +kernel) rfl ?_
          refine g_iald (by decide +kernel) (by omega) rfl rfl (by omega) (by decide) ?_
          refine g_icmp_eq (off := 15) (tgt := 98) (by decide +kernel) (by decide) s3 s8 (fun h83 => ?_) (fun h83 => ?_)
          · refine g_retV (by decide +kernel) rfl ⟨by decide, by decide⟩ ?_
            first
              | (have hz : zRp σ1 (L ++ [((0, σ 182 0, (k : Int), σ 36 k) : Int × Int × Int × Int)]) := hr
                 exact ⟨hf, by unfold zev1; rw [if_pos ⟨by omega, decide_eq_false (by omega)⟩]; exact hz⟩)
              | (have hz : zRp σ1 (L ++ [((1, σ 182 0, (k : Int), -1) : Int × Int × Int × Int)]) := hr
                 exact ⟨hf, by unfold zev1; rw [if_neg (fun q => by have := q.1; omega), if_pos ⟨by omega, decide_eq_true (by omega)⟩]; exact hz⟩)
              | (have hz : zRp σ1 (L ++ [((2, σ 182 0, (k : Int), σ 36 k) : Int × Int × Int × Int)]) := hr
                 exact ⟨hf, by unfold zev1; rw [if_neg (fun q => by have := of_decide_eq_false q.2; omega), if_neg (fun q => by have := q.1; omega), if_pos ⟨by omega, by omega⟩]; exact hz⟩)
              | (have e0 : zev1 (σ 182 0) k (σ 35 k) (σ 36 k) (σ 37 k) (decide (σ 187 k = 1)) (σ 188 k) = [] := by
                   unfold zev1
                   rw [if_neg (fun q => by have := of_decide_eq_false q.2; omega), if_neg (fun q => by have := of_decide_eq_true q.2; omega), if_neg (fun q => by omega)]
                 exact ⟨zRf.rf σ, by rw [e0, List.append_nil]; exact hL⟩)
          · refine g_aload_n (i := 0) (by decide +kernel) rfl ?_
            refine g_iconst (a := 2) (by decide +kernel) ?_
            refine g_iload_n (i := 2) (by decide +kernel) rfl ?_
            refine g_aload_n (i := 1) (by decide +kernel) rfl ?_
            refine g_getr f_Re_63 (by decide +kernel) (by omega) rfl rfl ?_
            refine g_iload_n (i := 2) (by decide +kernel) rfl ?_
            refine g_iald (by decide +kernel) (by omega) rfl rfl (by omega) (by decide) ?_
            refine g_cVV (st := []) (c_Re_keepEvent (y := (k : Int)) hn hL hl) k_Re_keepEvent l_Re_64 (by decide +kernel) (by omega) rfl rfl rfl rfl (Nat.le_of_ble_eq_true rfl) (by decide) ⟨by decide, by decide⟩ ?_
            rintro σ1 ⟨hf, hr⟩
            refine g_retV (by decide +kernel) rfl ⟨by decide, by decide⟩ ?_
            first
              | (have hz : zRp σ1 (L ++ [((0, σ 182 0, (k : Int), σ 36 k) : Int × Int × Int × Int)]) := hr
                 exact ⟨hf, by unfold zev1; rw [if_pos ⟨by omega, decide_eq_false (by omega)⟩]; exact hz⟩)
              | (have hz : zRp σ1 (L ++ [((1, σ 182 0, (k : Int), -1) : Int × Int × Int × Int)]) := hr
                 exact ⟨hf, by unfold zev1; rw [if_neg (fun q => by have := q.1; omega), if_pos ⟨by omega, decide_eq_true (by omega)⟩]; exact hz⟩)
              | (have hz : zRp σ1 (L ++ [((2, σ 182 0, (k : Int), σ 36 k) : Int × Int × Int × Int)]) := hr
                 exact ⟨hf, by unfold zev1; rw [if_neg (fun q => by have := of_decide_eq_false q.2; omega), if_neg (fun q => by have := q.1; omega), if_pos ⟨by omega, by omega⟩]; exact hz⟩)
              | (have e0 : zev1 (σ 182 0) k (σ 35 k) (σ 36 k) (σ 37 k) (decide (σ 187 k = 1)) (σ 188 k) = [] := by
                   unfold zev1
                   rw [if_neg (fun q => by have := of_decide_eq_false q.2; omega), if_neg (fun q => by have := of_decide_eq_true q.2; omega), if_neg (fun q => by omega)]
                 exact ⟨zRf.rf σ, by rw [e0, List.append_nil]; exact hL⟩)
      · refine g_aload_n (i := 0) (by decide +kernel) rfl ?_
        refine g_getr f_Re_24 (by decide +kernel) (by omega) rfl rfl ?_
        refine g_iload_n (i := 2) (by decide +kernel) rfl ?_
        refine g_zald (by decide +kernel) (by omega) rfl rfl (by omega) (by decide) ?_
        refine g_if_eq (off := 13) (tgt := 67) (by decide +kernel) (by decide) ⟨by omega, by omega⟩ (fun h54 => ?_) (fun h54 => ?_)
        · refine g_iload_n (i := 3) (by decide +kernel) rfl ?_
          refine g_if_eq (off := 30) (tgt := 98) (by decide +kernel) (by decide) ⟨by omega, by omega⟩ (fun h68 => ?_) (fun h68 => ?_)
          · refine g_retV (by decide +kernel) rfl ⟨by decide, by decide⟩ ?_
            first
              | (have hz : zRp σ1 (L ++ [((0, σ 182 0, (k : Int), σ 36 k) : Int × Int × Int × Int)]) := hr
                 exact ⟨hf, by unfold zev1; rw [if_pos ⟨by omega, decide_eq_false (by omega)⟩]; exact hz⟩)
              | (have hz : zRp σ1 (L ++ [((1, σ 182 0, (k : Int), -1) : Int × Int × Int × Int)]) := hr
                 exact ⟨hf, by unfold zev1; rw [if_neg (fun q => by have := q.1; omega), if_pos ⟨by omega, decide_eq_true (by omega)⟩]; exact hz⟩)
              | (have hz : zRp σ1 (L ++ [((2, σ 182 0, (k : Int), σ 36 k) : Int × Int × Int × Int)]) := hr
                 exact ⟨hf, by unfold zev1; rw [if_neg (fun q => by have := of_decide_eq_false q.2; omega), if_neg (fun q => by have := q.1; omega), if_pos ⟨by omega, by omega⟩]; exact hz⟩)
              | (have e0 : zev1 (σ 182 0) k (σ 35 k) (σ 36 k) (σ 37 k) (decide (σ 187 k = 1)) (σ 188 k) = [] := by
                   unfold zev1
                   rw [if_neg (fun q => by have := of_decide_eq_false q.2; omega), if_neg (fun q => by have := of_decide_eq_true q.2; omega), if_neg (fun q => by omega)]
                 exact ⟨zRf.rf σ, by rw [e0, List.append_nil]; exact hL⟩)
          · refine g_aload_n (i := 1) (by decide +kernel) rfl ?_
            refine g_getr f_Re_60 (by decide +kernel) (by omega) rfl rfl ?_
            refine g_iload_n (i := 2) (by decide +kernel) rfl ?_
            refine g_iald (by decide +kernel) (by omega) rfl rfl (by omega) (by decide) ?_
            refine g_aload_n (i := 0) (by decide +kernel) rfl ?_
            refine g_getr f_Re_28 (by decide +kernel) (by omega) rfl rfl ?_
            refine g_iload_n (i := 2) (by decide +kernel) rfl ?_
            refine g_iald (by decide +kernel) (by omega) rfl rfl (by omega) (by decide) ?_
            refine g_icmp_eq (off := 15) (tgt := 98) (by decide +kernel) (by decide) s3 s8 (fun h83 => ?_) (fun h83 => ?_)
            · refine g_retV (by decide +kernel) rfl ⟨by decide, by decide⟩ ?_
              first
                | (have hz : zRp σ1 (L ++ [((0, σ 182 0, (k : Int), σ 36 k) : Int × Int × Int × Int)]) := hr
                   exact ⟨hf, by unfold zev1; rw [if_pos ⟨by omega, decide_eq_false (by omega)⟩]; exact hz⟩)
                | (have hz : zRp σ1 (L ++ [((1, σ 182 0, (k : Int), -1) : Int × Int × Int × Int)]) := hr
                   exact ⟨hf, by unfold zev1; rw [if_neg (fun q => by have := q.1; omega), if_pos ⟨by omega, decide_eq_true (by omega)⟩]; exact hz⟩)
                | (have hz : zRp σ1 (L ++ [((2, σ 182 0, (k : Int), σ 36 k) : Int × Int × Int × Int)]) := hr
                   exact ⟨hf, by unfold zev1; rw [if_neg (fun q => by have := of_decide_eq_false q.2; omega), if_neg (fun q => by have := q.1; omega), if_pos ⟨by omega, by omega⟩]; exact hz⟩)
                | (have e0 : zev1 (σ 182 0) k (σ 35 k) (σ 36 k) (σ 37 k) (decide (σ 187 k = 1)) (σ 188 k) = [] := by
                     unfold zev1
                     rw [if_neg (fun q => by have := of_decide_eq_false q.2; omega), if_neg (fun q => by have := of_decide_eq_true q.2; omega), if_neg (fun q => by omega)]
                   exact ⟨zRf.rf σ, by rw [e0, List.append_nil]; exact hL⟩)
            · refine g_aload_n (i := 0) (by decide +kernel) rfl ?_
              refine g_iconst (a := 2) (by decide +kernel) ?_
              refine g_iload_n (i := 2) (by decide +kernel) rfl ?_
              refine g_aload_n (i := 1) (by decide +kernel) rfl ?_
              refine g_getr f_Re_63 (by decide +kernel) (by omega) rfl rfl ?_
              refine g_iload_n (i := 2) (by decide +kernel) rfl ?_
              refine g_iald (by decide +kernel) (by omega) rfl rfl (by omega) (by decide) ?_
              refine g_cVV (st := []) (c_Re_keepEvent (y := (k : Int)) hn hL hl) k_Re_keepEvent l_Re_64 (by decide +kernel) (by omega) rfl rfl rfl rfl (Nat.le_of_ble_eq_true rfl) (by decide) ⟨by decide, by decide⟩ ?_
              rintro σ1 ⟨hf, hr⟩
              refine g_retV (by decide +kernel) rfl ⟨by decide, by decide⟩ ?_
              first
                | (have hz : zRp σ1 (L ++ [((0, σ 182 0, (k : Int), σ 36 k) : Int × Int × Int × Int)]) := hr
                   exact ⟨hf, by unfold zev1; rw [if_pos ⟨by omega, decide_eq_false (by omega)⟩]; exact hz⟩)
                | (have hz : zRp σ1 (L ++ [((1, σ 182 0, (k : Int), -1) : Int × Int × Int × Int)]) := hr
                   exact ⟨hf, by unfold zev1; rw [if_neg (fun q => by have := q.1; omega), if_pos ⟨by omega, decide_eq_true (by omega)⟩]; exact hz⟩)
                | (have hz : zRp σ1 (L ++ [((2, σ 182 0, (k : Int), σ 36 k) : Int × Int × Int × Int)]) := hr
                   exact ⟨hf, by unfold zev1; rw [if_neg (fun q => by have := of_decide_eq_false q.2; omega), if_neg (fun q => by have := q.1; omega), if_pos ⟨by omega, by omega⟩]; exact hz⟩)
                | (have e0 : zev1 (σ 182 0) k (σ 35 k) (σ 36 k) (σ 37 k) (decide (σ 187 k = 1)) (σ 188 k) = [] := by
                     unfold zev1
                     rw [if_neg (fun q => by have := of_decide_eq_false q.2; omega), if_neg (fun q => by have := of_decide_eq_true q.2; omega), if_neg (fun q => by omega)]
                   exact ⟨zRf.rf σ, by rw [e0, List.append_nil]; exact hL⟩)
        · refine g_aload_n (i := 0) (by decide +kernel) rfl ?_
          refine g_iconst (a := 1) (by decide +kernel) ?_
          refine g_iload_n (i := 2) (by decide +kernel) rfl ?_
          refine g_iconst (a := -1) (by decide +kernel) ?_
          refine g_cVV (st := []) (c_Re_keepEvent (y := (k : Int)) hn hL hl) k_Re_keepEvent l_Re_64 (by decide +kernel) (by omega) rfl rfl rfl rfl (Nat.le_of_ble_eq_true rfl) (by decide) ⟨by decide, by decide⟩ ?_
          rintro σ1 ⟨hf, hr⟩
          refine g_goto (off := 34) (tgt := 98) (by decide +kernel) (by decide) ?_
          refine g_retV (by decide +kernel) rfl ⟨by decide, by decide⟩ ?_
          first
            | (have hz : zRp σ1 (L ++ [((0, σ 182 0, (k : Int), σ 36 k) : Int × Int × Int × Int)]) := hr
               exact ⟨hf, by unfold zev1; rw [if_pos ⟨by omega, decide_eq_false (by omega)⟩]; exact hz⟩)
            | (have hz : zRp σ1 (L ++ [((1, σ 182 0, (k : Int), -1) : Int × Int × Int × Int)]) := hr
               exact ⟨hf, by unfold zev1; rw [if_neg (fun q => by have := q.1; omega), if_pos ⟨by omega, decide_eq_true (by omega)⟩]; exact hz⟩)
            | (have hz : zRp σ1 (L ++ [((2, σ 182 0, (k : Int), σ 36 k) : Int × Int × Int × Int)]) := hr
               exact ⟨hf, by unfold zev1; rw [if_neg (fun q => by have := of_decide_eq_false q.2; omega), if_neg (fun q => by have := q.1; omega), if_pos ⟨by omega, by omega⟩]; exact hz⟩)
            | (have e0 : zev1 (σ 182 0) k (σ 35 k) (σ 36 k) (σ 37 k) (decide (σ 187 k = 1)) (σ 188 k) = [] := by
                 unfold zev1
                 rw [if_neg (fun q => by have := of_decide_eq_false q.2; omega), if_neg (fun q => by have := of_decide_eq_true q.2; omega), if_neg (fun q => by omega)]
               exact ⟨zRf.rf σ, by rw [e0, List.append_nil]; exact hL⟩)
    · refine g_aload_n (i := 0) (by decide +kernel) rfl ?_
      refine g_getr f_Re_24 (by decide +kernel) (by omega) rfl rfl ?_
      refine g_iload_n (i := 2) (by decide +kernel) rfl ?_
      refine g_zald (by decide +kernel) (by omega) rfl rfl (by omega) (by decide) ?_
      refine g_if_ne (off := 18) (tgt := 44) (by decide +kernel) (by decide) ⟨by omega, by omega⟩ (fun h26 => ?_) (fun h26 => ?_)
      · refine g_iload_n (i := 3) (by decide +kernel) rfl ?_
        refine g_if_ne (off := 22) (tgt := 67) (by decide +kernel) (by decide) ⟨by omega, by omega⟩ (fun h45 => ?_) (fun h45 => ?_)
        · refine g_iload_n (i := 3) (by decide +kernel) rfl ?_
          refine g_if_eq (off := 30) (tgt := 98) (by decide +kernel) (by decide) ⟨by omega, by omega⟩ (fun h68 => ?_) (fun h68 => ?_)
          · refine g_retV (by decide +kernel) rfl ⟨by decide, by decide⟩ ?_
            first
              | (have hz : zRp σ1 (L ++ [((0, σ 182 0, (k : Int), σ 36 k) : Int × Int × Int × Int)]) := hr
                 exact ⟨hf, by unfold zev1; rw [if_pos ⟨by omega, decide_eq_false (by omega)⟩]; exact hz⟩)
              | (have hz : zRp σ1 (L ++ [((1, σ 182 0, (k : Int), -1) : Int × Int × Int × Int)]) := hr
                 exact ⟨hf, by unfold zev1; rw [if_neg (fun q => by have := q.1; omega), if_pos ⟨by omega, decide_eq_true (by omega)⟩]; exact hz⟩)
              | (have hz : zRp σ1 (L ++ [((2, σ 182 0, (k : Int), σ 36 k) : Int × Int × Int × Int)]) := hr
                 exact ⟨hf, by unfold zev1; rw [if_neg (fun q => by have := of_decide_eq_false q.2; omega), if_neg (fun q => by have := q.1; omega), if_pos ⟨by omega, by omega⟩]; exact hz⟩)
              | (have e0 : zev1 (σ 182 0) k (σ 35 k) (σ 36 k) (σ 37 k) (decide (σ 187 k = 1)) (σ 188 k) = [] := by
                   unfold zev1
                   rw [if_neg (fun q => by have := of_decide_eq_false q.2; omega), if_neg (fun q => by have := of_decide_eq_true q.2; omega), if_neg (fun q => by omega)]
                 exact ⟨zRf.rf σ, by rw [e0, List.append_nil]; exact hL⟩)
          · refine g_aload_n (i := 1) (by decide +kernel) rfl ?_
            refine g_getr f_Re_60 (by decide +kernel) (by omega) rfl rfl ?_
            refine g_iload_n (i := 2) (by decide +kernel) rfl ?_
            refine g_iald (by decide +kernel) (by omega) rfl rfl (by omega) (by decide) ?_
            refine g_aload_n (i := 0) (by decide +kernel) rfl ?_
            refine g_getr f_Re_28 (by decide +kernel) (by omega) rfl rfl ?_
            refine g_iload_n (i := 2) (by decide +kernel) rfl ?_
            refine g_iald (by decide +kernel) (by omega) rfl rfl (by omega) (by decide) ?_
            refine g_icmp_eq (off := 15) (tgt := 98) (by decide +kernel) (by decide) s3 s8 (fun h83 => ?_) (fun h83 => ?_)
            · refine g_retV (by decide +kernel) rfl ⟨by decide, by decide⟩ ?_
              first
                | (have hz : zRp σ1 (L ++ [((0, σ 182 0, (k : Int), σ 36 k) : Int × Int × Int × Int)]) := hr
                   exact ⟨hf, by unfold zev1; rw [if_pos ⟨by omega, decide_eq_false (by omega)⟩]; exact hz⟩)
                | (have hz : zRp σ1 (L ++ [((1, σ 182 0, (k : Int), -1) : Int × Int × Int × Int)]) := hr
                   exact ⟨hf, by unfold zev1; rw [if_neg (fun q => by have := q.1; omega), if_pos ⟨by omega, decide_eq_true (by omega)⟩]; exact hz⟩)
                | (have hz : zRp σ1 (L ++ [((2, σ 182 0, (k : Int), σ 36 k) : Int × Int × Int × Int)]) := hr
                   exact ⟨hf, by unfold zev1; rw [if_neg (fun q => by have := of_decide_eq_false q.2; omega), if_neg (fun q => by have := q.1; omega), if_pos ⟨by omega, by omega⟩]; exact hz⟩)
                | (have e0 : zev1 (σ 182 0) k (σ 35 k) (σ 36 k) (σ 37 k) (decide (σ 187 k = 1)) (σ 188 k) = [] := by
                     unfold zev1
                     rw [if_neg (fun q => by have := of_decide_eq_false q.2; omega), if_neg (fun q => by have := of_decide_eq_true q.2; omega), if_neg (fun q => by omega)]
                   exact ⟨zRf.rf σ, by rw [e0, List.append_nil]; exact hL⟩)
            · refine g_aload_n (i := 0) (by decide +kernel) rfl ?_
              refine g_iconst (a := 2) (by decide +kernel) ?_
              refine g_iload_n (i := 2) (by decide +kernel) rfl ?_
              refine g_aload_n (i := 1) (by decide +kernel) rfl ?_
              refine g_getr f_Re_63 (by decide +kernel) (by omega) rfl rfl ?_
              refine g_iload_n (i := 2) (by decide +kernel) rfl ?_
              refine g_iald (by decide +kernel) (by omega) rfl rfl (by omega) (by decide) ?_
              refine g_cVV (st := []) (c_Re_keepEvent (y := (k : Int)) hn hL hl) k_Re_keepEvent l_Re_64 (by decide +kernel) (by omega) rfl rfl rfl rfl (Nat.le_of_ble_eq_true rfl) (by decide) ⟨by decide, by decide⟩ ?_
              rintro σ1 ⟨hf, hr⟩
              refine g_retV (by decide +kernel) rfl ⟨by decide, by decide⟩ ?_
              first
                | (have hz : zRp σ1 (L ++ [((0, σ 182 0, (k : Int), σ 36 k) : Int × Int × Int × Int)]) := hr
                   exact ⟨hf, by unfold zev1; rw [if_pos ⟨by omega, decide_eq_false (by omega)⟩]; exact hz⟩)
                | (have hz : zRp σ1 (L ++ [((1, σ 182 0, (k : Int), -1) : Int × Int × Int × Int)]) := hr
                   exact ⟨hf, by unfold zev1; rw [if_neg (fun q => by have := q.1; omega), if_pos ⟨by omega, decide_eq_true (by omega)⟩]; exact hz⟩)
                | (have hz : zRp σ1 (L ++ [((2, σ 182 0, (k : Int), σ 36 k) : Int × Int × Int × Int)]) := hr
                   exact ⟨hf, by unfold zev1; rw [if_neg (fun q => by have := of_decide_eq_false q.2; omega), if_neg (fun q => by have := q.1; omega), if_pos ⟨by omega, by omega⟩]; exact hz⟩)
                | (have e0 : zev1 (σ 182 0) k (σ 35 k) (σ 36 k) (σ 37 k) (decide (σ 187 k = 1)) (σ 188 k) = [] := by
                     unfold zev1
                     rw [if_neg (fun q => by have := of_decide_eq_false q.2; omega), if_neg (fun q => by have := of_decide_eq_true q.2; omega), if_neg (fun q => by omega)]
                   exact ⟨zRf.rf σ, by rw [e0, List.append_nil]; exact hL⟩)
        · refine g_aload_n (i := 0) (by decide +kernel) rfl ?_
          refine g_getr f_Re_24 (by decide +kernel) (by omega) rfl rfl ?_
          refine g_iload_n (i := 2) (by decide +kernel) rfl ?_
          refine g_zald (by decide +kernel) (by omega) rfl rfl (by omega) (by decide) ?_
          refine g_if_eq (off := 13) (tgt := 67) (by decide +kernel) (by decide) ⟨by omega, by omega⟩ (fun h54 => ?_) (fun h54 => ?_)
          · refine g_iload_n (i := 3) (by decide +kernel) rfl ?_
            refine g_if_eq (off := 30) (tgt := 98) (by decide +kernel) (by decide) ⟨by omega, by omega⟩ (fun h68 => ?_) (fun h68 => ?_)
            · refine g_retV (by decide +kernel) rfl ⟨by decide, by decide⟩ ?_
              first
                | (have hz : zRp σ1 (L ++ [((0, σ 182 0, (k : Int), σ 36 k) : Int × Int × Int × Int)]) := hr
                   exact ⟨hf, by unfold zev1; rw [if_pos ⟨by omega, decide_eq_false (by omega)⟩]; exact hz⟩)
                | (have hz : zRp σ1 (L ++ [((1, σ 182 0, (k : Int), -1) : Int × Int × Int × Int)]) := hr
                   exact ⟨hf, by unfold zev1; rw [if_neg (fun q => by have := q.1; omega), if_pos ⟨by omega, decide_eq_true (by omega)⟩]; exact hz⟩)
                | (have hz : zRp σ1 (L ++ [((2, σ 182 0, (k : Int), σ 36 k) : Int × Int × Int × Int)]) := hr
                   exact ⟨hf, by unfold zev1; rw [if_neg (fun q => by have := of_decide_eq_false q.2; omega), if_neg (fun q => by have := q.1; omega), if_pos ⟨by omega, by omega⟩]; exact hz⟩)
                | (have e0 : zev1 (σ 182 0) k (σ 35 k) (σ 36 k) (σ 37 k) (decide (σ 187 k = 1)) (σ 188 k) = [] := by
                     unfold zev1
                     rw [if_neg (fun q => by have := of_decide_eq_false q.2; omega), if_neg (fun q => by have := of_decide_eq_true q.2; omega), if_neg (fun q => by omega)]
                   exact ⟨zRf.rf σ, by rw [e0, List.append_nil]; exact hL⟩)
            · refine g_aload_n (i := 1) (by decide +kernel) rfl ?_
              refine g_getr f_Re_60 (by decide +kernel) (by omega) rfl rfl ?_
              refine g_iload_n (i := 2) (by decide +kernel) rfl ?_
              refine g_iald (by decide +kernel) (by omega) rfl rfl (by omega) (by decide) ?_
              refine g_aload_n (i := 0) (by decide +kernel) rfl ?_
              refine g_getr f_Re_28 (by decide +kernel) (by omega) rfl rfl ?_
              refine g_iload_n (i := 2) (by decide +kernel) rfl ?_
              refine g_iald (by decide +kernel) (by omega) rfl rfl (by omega) (by decide) ?_
              refine g_icmp_eq (off := 15) (tgt := 98) (by decide +kernel) (by decide) s3 s8 (fun h83 => ?_) (fun h83 => ?_)
              · refine g_retV (by decide +kernel) rfl ⟨by decide, by decide⟩ ?_
                first
                  | (have hz : zRp σ1 (L ++ [((0, σ 182 0, (k : Int), σ 36 k) : Int × Int × Int × Int)]) := hr
                     exact ⟨hf, by unfold zev1; rw [if_pos ⟨by omega, decide_eq_false (by omega)⟩]; exact hz⟩)
                  | (have hz : zRp σ1 (L ++ [((1, σ 182 0, (k : Int), -1) : Int × Int × Int × Int)]) := hr
                     exact ⟨hf, by unfold zev1; rw [if_neg (fun q => by have := q.1; omega), if_pos ⟨by omega, decide_eq_true (by omega)⟩]; exact hz⟩)
                  | (have hz : zRp σ1 (L ++ [((2, σ 182 0, (k : Int), σ 36 k) : Int × Int × Int × Int)]) := hr
                     exact ⟨hf, by unfold zev1; rw [if_neg (fun q => by have := of_decide_eq_false q.2; omega), if_neg (fun q => by have := q.1; omega), if_pos ⟨by omega, by omega⟩]; exact hz⟩)
                  | (have e0 : zev1 (σ 182 0) k (σ 35 k) (σ 36 k) (σ 37 k) (decide (σ 187 k = 1)) (σ 188 k) = [] := by
                       unfold zev1
                       rw [if_neg (fun q => by have := of_decide_eq_false q.2; omega), if_neg (fun q => by have := of_decide_eq_true q.2; omega), if_neg (fun q => by omega)]
                     exact ⟨zRf.rf σ, by rw [e0, List.append_nil]; exact hL⟩)
              · refine g_aload_n (i := 0) (by decide +kernel) rfl ?_
                refine g_iconst (a := 2) (by decide +kernel) ?_
                refine g_iload_n (i := 2) (by decide +kernel) rfl ?_
                refine g_aload_n (i := 1) (by decide +kernel) rfl ?_
                refine g_getr f_Re_63 (by decide +kernel) (by omega) rfl rfl ?_
                refine g_iload_n (i := 2) (by decide +kernel) rfl ?_
                refine g_iald (by decide +kernel) (by omega) rfl rfl (by omega) (by decide) ?_
                refine g_cVV (st := []) (c_Re_keepEvent (y := (k : Int)) hn hL hl) k_Re_keepEvent l_Re_64 (by decide +kernel) (by omega) rfl rfl rfl rfl (Nat.le_of_ble_eq_true rfl) (by decide) ⟨by decide, by decide⟩ ?_
                rintro σ1 ⟨hf, hr⟩
                refine g_retV (by decide +kernel) rfl ⟨by decide, by decide⟩ ?_
                first
                  | (have hz : zRp σ1 (L ++ [((0, σ 182 0, (k : Int), σ 36 k) : Int × Int × Int × Int)]) := hr
                     exact ⟨hf, by unfold zev1; rw [if_pos ⟨by omega, decide_eq_false (by omega)⟩]; exact hz⟩)
                  | (have hz : zRp σ1 (L ++ [((1, σ 182 0, (k : Int), -1) : Int × Int × Int × Int)]) := hr
                     exact ⟨hf, by unfold zev1; rw [if_neg (fun q => by have := q.1; omega), if_pos ⟨by omega, decide_eq_true (by omega)⟩]; exact hz⟩)
                  | (have hz : zRp σ1 (L ++ [((2, σ 182 0, (k : Int), σ 36 k) : Int × Int × Int × Int)]) := hr
                     exact ⟨hf, by unfold zev1; rw [if_neg (fun q => by have := of_decide_eq_false q.2; omega), if_neg (fun q => by have := q.1; omega), if_pos ⟨by omega, by omega⟩]; exact hz⟩)
                  | (have e0 : zev1 (σ 182 0) k (σ 35 k) (σ 36 k) (σ 37 k) (decide (σ 187 k = 1)) (σ 188 k) = [] := by
                       unfold zev1
                       rw [if_neg (fun q => by have := of_decide_eq_false q.2; omega), if_neg (fun q => by have := of_decide_eq_true q.2; omega), if_neg (fun q => by omega)]
                     exact ⟨zRf.rf σ, by rw [e0, List.append_nil]; exact hL⟩)
          · refine g_aload_n (i := 0) (by decide +kernel) rfl ?_
            refine g_iconst (a := 1) (by decide +kernel) ?_
            refine g_iload_n (i := 2) (by decide +kernel) rfl ?_
            refine g_iconst (a := -1) (by decide +kernel) ?_
            refine g_cVV (st := []) (c_Re_keepEvent (y := (k : Int)) hn hL hl) k_Re_keepEvent l_Re_64 (by decide +kernel) (by omega) rfl rfl rfl rfl (Nat.le_of_ble_eq_true rfl) (by decide) ⟨by decide, by decide⟩ ?_
            rintro σ1 ⟨hf, hr⟩
            refine g_goto (off := 34) (tgt := 98) (by decide +kernel) (by decide) ?_
            refine g_retV (by decide +kernel) rfl ⟨by decide, by decide⟩ ?_
            first
              | (have hz : zRp σ1 (L ++ [((0, σ 182 0, (k : Int), σ 36 k) : Int × Int × Int × Int)]) := hr
                 exact ⟨hf, by unfold zev1; rw [if_pos ⟨by omega, decide_eq_false (by omega)⟩]; exact hz⟩)
              | (have hz : zRp σ1 (L ++ [((1, σ 182 0, (k : Int), -1) : Int × Int × Int × Int)]) := hr
                 exact ⟨hf, by unfold zev1; rw [if_neg (fun q => by have := q.1; omega), if_pos ⟨by omega, decide_eq_true (by omega)⟩]; exact hz⟩)
              | (have hz : zRp σ1 (L ++ [((2, σ 182 0, (k : Int), σ 36 k) : Int × Int × Int × Int)]) := hr
                 exact ⟨hf, by unfold zev1; rw [if_neg (fun q => by have := of_decide_eq_false q.2; omega), if_neg (fun q => by have := q.1; omega), if_pos ⟨by omega, by omega⟩]; exact hz⟩)
              | (have e0 : zev1 (σ 182 0) k (σ 35 k) (σ 36 k) (σ 37 k) (decide (σ 187 k = 1)) (σ 188 k) = [] := by
                   unfold zev1
                   rw [if_neg (fun q => by have := of_decide_eq_false q.2; omega), if_neg (fun q => by have := of_decide_eq_true q.2; omega), if_neg (fun q => by omega)]
                 exact ⟨zRf.rf σ, by rw [e0, List.append_nil]; exact hL⟩)
      · refine g_aload_n (i := 0) (by decide +kernel) rfl ?_
        refine g_iconst (a := 0) (by decide +kernel) ?_
        refine g_iload_n (i := 2) (by decide +kernel) rfl ?_
        refine g_aload_n (i := 1) (by decide +kernel) rfl ?_
        refine g_getr f_Re_63 (by decide +kernel) (by omega) rfl rfl ?_
        refine g_iload_n (i := 2) (by decide +kernel) rfl ?_
        refine g_iald (by decide +kernel) (by omega) rfl rfl (by omega) (by decide) ?_
        refine g_cVV (st := []) (c_Re_keepEvent (y := (k : Int)) hn hL hl) k_Re_keepEvent l_Re_64 (by decide +kernel) (by omega) rfl rfl rfl rfl (Nat.le_of_ble_eq_true rfl) (by decide) ⟨by decide, by decide⟩ ?_
        rintro σ1 ⟨hf, hr⟩
        refine g_goto (off := 57) (tgt := 98) (by decide +kernel) (by decide) ?_
        refine g_retV (by decide +kernel) rfl ⟨by decide, by decide⟩ ?_
        first
          | (have hz : zRp σ1 (L ++ [((0, σ 182 0, (k : Int), σ 36 k) : Int × Int × Int × Int)]) := hr
             exact ⟨hf, by unfold zev1; rw [if_pos ⟨by omega, decide_eq_false (by omega)⟩]; exact hz⟩)
          | (have hz : zRp σ1 (L ++ [((1, σ 182 0, (k : Int), -1) : Int × Int × Int × Int)]) := hr
             exact ⟨hf, by unfold zev1; rw [if_neg (fun q => by have := q.1; omega), if_pos ⟨by omega, decide_eq_true (by omega)⟩]; exact hz⟩)
          | (have hz : zRp σ1 (L ++ [((2, σ 182 0, (k : Int), σ 36 k) : Int × Int × Int × Int)]) := hr
             exact ⟨hf, by unfold zev1; rw [if_neg (fun q => by have := of_decide_eq_false q.2; omega), if_neg (fun q => by have := q.1; omega), if_pos ⟨by omega, by omega⟩]; exact hz⟩)
          | (have e0 : zev1 (σ 182 0) k (σ 35 k) (σ 36 k) (σ 37 k) (decide (σ 187 k = 1)) (σ 188 k) = [] := by
               unfold zev1
               rw [if_neg (fun q => by have := of_decide_eq_false q.2; omega), if_neg (fun q => by have := of_decide_eq_true q.2; omega), if_neg (fun q => by omega)]
             exact ⟨zRf.rf σ, by rw [e0, List.append_nil]; exact hL⟩)
  · refine g_iconst (a := 1) (by decide +kernel) ?_
    refine g_goto (off := 4) (tgt := 15) (by decide +kernel) (by decide) ?_
    refine g_istore_n (i := 3) (L' := [(0, _), (1, _), (2, _), (3, _)]) (by decide +kernel) rfl rfl ?_
    refine g_iload_n (i := 3) (by decide +kernel) rfl ?_
    refine g_if_eq (off := 27) (tgt := 44) (by decide +kernel) (by decide) ⟨by omega, by omega⟩ (fun h17 => ?_) (fun h17 => ?_)
    · refine g_iload_n (i := 3) (by decide +kernel) rfl ?_
      refine g_if_ne (off := 22) (tgt := 67) (by decide +kernel) (by decide) ⟨by omega, by omega⟩ (fun h45 => ?_) (fun h45 => ?_)
      · refine g_iload_n (i := 3) (by decide +kernel) rfl ?_
        refine g_if_eq (off := 30) (tgt := 98) (by decide +kernel) (by decide) ⟨by omega, by omega⟩ (fun h68 => ?_) (fun h68 => ?_)
        · refine g_retV (by decide +kernel) rfl ⟨by decide, by decide⟩ ?_
          first
            | (have hz : zRp σ1 (L ++ [((0, σ 182 0, (k : Int), σ 36 k) : Int × Int × Int × Int)]) := hr
               exact ⟨hf, by unfold zev1; rw [if_pos ⟨by omega, decide_eq_false (by omega)⟩]; exact hz⟩)
            | (have hz : zRp σ1 (L ++ [((1, σ 182 0, (k : Int), -1) : Int × Int × Int × Int)]) := hr
               exact ⟨hf, by unfold zev1; rw [if_neg (fun q => by have := q.1; omega), if_pos ⟨by omega, decide_eq_true (by omega)⟩]; exact hz⟩)
            | (have hz : zRp σ1 (L ++ [((2, σ 182 0, (k : Int), σ 36 k) : Int × Int × Int × Int)]) := hr
               exact ⟨hf, by unfold zev1; rw [if_neg (fun q => by have := of_decide_eq_false q.2; omega), if_neg (fun q => by have := q.1; omega), if_pos ⟨by omega, by omega⟩]; exact hz⟩)
            | (have e0 : zev1 (σ 182 0) k (σ 35 k) (σ 36 k) (σ 37 k) (decide (σ 187 k = 1)) (σ 188 k) = [] := by
                 unfold zev1
                 rw [if_neg (fun q => by have := of_decide_eq_false q.2; omega), if_neg (fun q => by have := of_decide_eq_true q.2; omega), if_neg (fun q => by omega)]
               exact ⟨zRf.rf σ, by rw [e0, List.append_nil]; exact hL⟩)
        · refine g_aload_n (i := 1) (by decide +kernel) rfl ?_
          refine g_getr f_Re_60 (by decide +kernel) (by omega) rfl rfl ?_
          refine g_iload_n (i := 2) (by decide +kernel) rfl ?_
          refine g_iald (by decide +kernel) (by omega) rfl rfl (by omega) (by decide) ?_
          refine g_aload_n (i := 0) (by decide +kernel) rfl ?_
          refine g_getr f_Re_28 (by decide +kernel) (by omega) rfl rfl ?_
          refine g_iload_n (i := 2) (by decide +kernel) rfl ?_
          refine g_iald (by decide +kernel) (by omega) rfl rfl (by omega) (by decide) ?_
          refine g_icmp_eq (off := 15) (tgt := 98) (by decide +kernel) (by decide) s3 s8 (fun h83 => ?_) (fun h83 => ?_)
          · refine g_retV (by decide +kernel) rfl ⟨by decide, by decide⟩ ?_
            first
              | (have hz : zRp σ1 (L ++ [((0, σ 182 0, (k : Int), σ 36 k) : Int × Int × Int × Int)]) := hr
                 exact ⟨hf, by unfold zev1; rw [if_pos ⟨by omega, decide_eq_false (by omega)⟩]; exact hz⟩)
              | (have hz : zRp σ1 (L ++ [((1, σ 182 0, (k : Int), -1) : Int × Int × Int × Int)]) := hr
                 exact ⟨hf, by unfold zev1; rw [if_neg (fun q => by have := q.1; omega), if_pos ⟨by omega, decide_eq_true (by omega)⟩]; exact hz⟩)
              | (have hz : zRp σ1 (L ++ [((2, σ 182 0, (k : Int), σ 36 k) : Int × Int × Int × Int)]) := hr
                 exact ⟨hf, by unfold zev1; rw [if_neg (fun q => by have := of_decide_eq_false q.2; omega), if_neg (fun q => by have := q.1; omega), if_pos ⟨by omega, by omega⟩]; exact hz⟩)
              | (have e0 : zev1 (σ 182 0) k (σ 35 k) (σ 36 k) (σ 37 k) (decide (σ 187 k = 1)) (σ 188 k) = [] := by
                   unfold zev1
                   rw [if_neg (fun q => by have := of_decide_eq_false q.2; omega), if_neg (fun q => by have := of_decide_eq_true q.2; omega), if_neg (fun q => by omega)]
                 exact ⟨zRf.rf σ, by rw [e0, List.append_nil]; exact hL⟩)
          · refine g_aload_n (i := 0) (by decide +kernel) rfl ?_
            refine g_iconst (a := 2) (by decide +kernel) ?_
            refine g_iload_n (i := 2) (by decide +kernel) rfl ?_
            refine g_aload_n (i := 1) (by decide +kernel) rfl ?_
            refine g_getr f_Re_63 (by decide +kernel) (by omega) rfl rfl ?_
            refine g_iload_n (i := 2) (by decide +kernel) rfl ?_
            refine g_iald (by decide +kernel) (by omega) rfl rfl (by omega) (by decide) ?_
            refine g_cVV (st := []) (c_Re_keepEvent (y := (k : Int)) hn hL hl) k_Re_keepEvent l_Re_64 (by decide +kernel) (by omega) rfl rfl rfl rfl (Nat.le_of_ble_eq_true rfl) (by decide) ⟨by decide, by decide⟩ ?_
            rintro σ1 ⟨hf, hr⟩
            refine g_retV (by decide +kernel) rfl ⟨by decide, by decide⟩ ?_
            first
              | (have hz : zRp σ1 (L ++ [((0, σ 182 0, (k : Int), σ 36 k) : Int × Int × Int × Int)]) := hr
                 exact ⟨hf, by unfold zev1; rw [if_pos ⟨by omega, decide_eq_false (by omega)⟩]; exact hz⟩)
              | (have hz : zRp σ1 (L ++ [((1, σ 182 0, (k : Int), -1) : Int × Int × Int × Int)]) := hr
                 exact ⟨hf, by unfold zev1; rw [if_neg (fun q => by have := q.1; omega), if_pos ⟨by omega, decide_eq_true (by omega)⟩]; exact hz⟩)
              | (have hz : zRp σ1 (L ++ [((2, σ 182 0, (k : Int), σ 36 k) : Int × Int × Int × Int)]) := hr
                 exact ⟨hf, by unfold zev1; rw [if_neg (fun q => by have := of_decide_eq_false q.2; omega), if_neg (fun q => by have := q.1; omega), if_pos ⟨by omega, by omega⟩]; exact hz⟩)
              | (have e0 : zev1 (σ 182 0) k (σ 35 k) (σ 36 k) (σ 37 k) (decide (σ 187 k = 1)) (σ 188 k) = [] := by
                   unfold zev1
                   rw [if_neg (fun q => by have := of_decide_eq_false q.2; omega), if_neg (fun q => by have := of_decide_eq_true q.2; omega), if_neg (fun q => by omega)]
                 exact ⟨zRf.rf σ, by rw [e0, List.append_nil]; exact hL⟩)
      · refine g_aload_n (i := 0) (by decide +kernel) rfl ?_
        refine g_getr f_Re_24 (by decide +kernel) (by omega) rfl rfl ?_
        refine g_iload_n (i := 2) (by decide +kernel) rfl ?_
        refine g_zald (by decide +kernel) (by omega) rfl rfl (by omega) (by decide) ?_
        refine g_if_eq (off := 13) (tgt := 67) (by decide +kernel) (by decide) ⟨by omega, by omega⟩ (fun h54 => ?_) (fun h54 => ?_)
        · refine g_iload_n (i := 3) (by decide +kernel) rfl ?_
          refine g_if_eq (off := 30) (tgt := 98) (by decide +kernel) (by decide) ⟨by omega, by omega⟩ (fun h68 => ?_) (fun h68 => ?_)
          · refine g_retV (by decide +kernel) rfl ⟨by decide, by decide⟩ ?_
            first
              | (have hz : zRp σ1 (L ++ [((0, σ 182 0, (k : Int), σ 36 k) : Int × Int × Int × Int)]) := hr
                 exact ⟨hf, by unfold zev1; rw [if_pos ⟨by omega, decide_eq_false (by omega)⟩]; exact hz⟩)
              | (have hz : zRp σ1 (L ++ [((1, σ 182 0, (k : Int), -1) : Int × Int × Int × Int)]) := hr
                 exact ⟨hf, by unfold zev1; rw [if_neg (fun q => by have := q.1; omega), if_pos ⟨by omega, decide_eq_true (by omega)⟩]; exact hz⟩)
              | (have hz : zRp σ1 (L ++ [((2, σ 182 0, (k : Int), σ 36 k) : Int × Int × Int × Int)]) := hr
                 exact ⟨hf, by unfold zev1; rw [if_neg (fun q => by have := of_decide_eq_false q.2; omega), if_neg (fun q => by have := q.1; omega), if_pos ⟨by omega, by omega⟩]; exact hz⟩)
              | (have e0 : zev1 (σ 182 0) k (σ 35 k) (σ 36 k) (σ 37 k) (decide (σ 187 k = 1)) (σ 188 k) = [] := by
                   unfold zev1
                   rw [if_neg (fun q => by have := of_decide_eq_false q.2; omega), if_neg (fun q => by have := of_decide_eq_true q.2; omega), if_neg (fun q => by omega)]
                 exact ⟨zRf.rf σ, by rw [e0, List.append_nil]; exact hL⟩)
          · refine g_aload_n (i := 1) (by decide +kernel) rfl ?_
            refine g_getr f_Re_60 (by decide +kernel) (by omega) rfl rfl ?_
            refine g_iload_n (i := 2) (by decide +kernel) rfl ?_
            refine g_iald (by decide +kernel) (by omega) rfl rfl (by omega) (by decide) ?_
            refine g_aload_n (i := 0) (by decide +kernel) rfl ?_
            refine g_getr f_Re_28 (by decide +kernel) (by omega) rfl rfl ?_
            refine g_iload_n (i := 2) (by decide +kernel) rfl ?_
            refine g_iald (by decide +kernel) (by omega) rfl rfl (by omega) (by decide) ?_
            refine g_icmp_eq (off := 15) (tgt := 98) (by decide +kernel) (by decide) s3 s8 (fun h83 => ?_) (fun h83 => ?_)
            · refine g_retV (by decide +kernel) rfl ⟨by decide, by decide⟩ ?_
              first
                | (have hz : zRp σ1 (L ++ [((0, σ 182 0, (k : Int), σ 36 k) : Int × Int × Int × Int)]) := hr
                   exact ⟨hf, by unfold zev1; rw [if_pos ⟨by omega, decide_eq_false (by omega)⟩]; exact hz⟩)
                | (have hz : zRp σ1 (L ++ [((1, σ 182 0, (k : Int), -1) : Int × Int × Int × Int)]) := hr
                   exact ⟨hf, by unfold zev1; rw [if_neg (fun q => by have := q.1; omega), if_pos ⟨by omega, decide_eq_true (by omega)⟩]; exact hz⟩)
                | (have hz : zRp σ1 (L ++ [((2, σ 182 0, (k : Int), σ 36 k) : Int × Int × Int × Int)]) := hr
                   exact ⟨hf, by unfold zev1; rw [if_neg (fun q => by have := of_decide_eq_false q.2; omega), if_neg (fun q => by have := q.1; omega), if_pos ⟨by omega, by omega⟩]; exact hz⟩)
                | (have e0 : zev1 (σ 182 0) k (σ 35 k) (σ 36 k) (σ 37 k) (decide (σ 187 k = 1)) (σ 188 k) = [] := by
                     unfold zev1
                     rw [if_neg (fun q => by have := of_decide_eq_false q.2; omega), if_neg (fun q => by have := of_decide_eq_true q.2; omega), if_neg (fun q => by omega)]
                   exact ⟨zRf.rf σ, by rw [e0, List.append_nil]; exact hL⟩)
            · refine g_aload_n (i := 0) (by decide +kernel) rfl ?_
              refine g_iconst (a := 2) (by decide +kernel) ?_
              refine g_iload_n (i := 2) (by decide +kernel) rfl ?_
              refine g_aload_n (i := 1) (by decide +kernel) rfl ?_
              refine g_getr f_Re_63 (by decide +kernel) (by omega) rfl rfl ?_
              refine g_iload_n (i := 2) (by decide +kernel) rfl ?_
              refine g_iald (by decide +kernel) (by omega) rfl rfl (by omega) (by decide) ?_
              refine g_cVV (st := []) (c_Re_keepEvent (y := (k : Int)) hn hL hl) k_Re_keepEvent l_Re_64 (by decide +kernel) (by omega) rfl rfl rfl rfl (Nat.le_of_ble_eq_true rfl) (by decide) ⟨by decide, by decide⟩ ?_
              rintro σ1 ⟨hf, hr⟩
              refine g_retV (by decide +kernel) rfl ⟨by decide, by decide⟩ ?_
              first
                | (have hz : zRp σ1 (L ++ [((0, σ 182 0, (k : Int), σ 36 k) : Int × Int × Int × Int)]) := hr
                   exact ⟨hf, by unfold zev1; rw [if_pos ⟨by omega, decide_eq_false (by omega)⟩]; exact hz⟩)
                | (have hz : zRp σ1 (L ++ [((1, σ 182 0, (k : Int), -1) : Int × Int × Int × Int)]) := hr
                   exact ⟨hf, by unfold zev1; rw [if_neg (fun q => by have := q.1; omega), if_pos ⟨by omega, decide_eq_true (by omega)⟩]; exact hz⟩)
                | (have hz : zRp σ1 (L ++ [((2, σ 182 0, (k : Int), σ 36 k) : Int × Int × Int × Int)]) := hr
                   exact ⟨hf, by unfold zev1; rw [if_neg (fun q => by have := of_decide_eq_false q.2; omega), if_neg (fun q => by have := q.1; omega), if_pos ⟨by omega, by omega⟩]; exact hz⟩)
                | (have e0 : zev1 (σ 182 0) k (σ 35 k) (σ 36 k) (σ 37 k) (decide (σ 187 k = 1)) (σ 188 k) = [] := by
                     unfold zev1
                     rw [if_neg (fun q => by have := of_decide_eq_false q.2; omega), if_neg (fun q => by have := of_decide_eq_true q.2; omega), if_neg (fun q => by omega)]
                   exact ⟨zRf.rf σ, by rw [e0, List.append_nil]; exact hL⟩)
        · refine g_aload_n (i := 0) (by decide +kernel) rfl ?_
          refine g_iconst (a := 1) (by decide +kernel) ?_
          refine g_iload_n (i := 2) (by decide +kernel) rfl ?_
          refine g_iconst (a := -1) (by decide +kernel) ?_
          refine g_cVV (st := []) (c_Re_keepEvent (y := (k : Int)) hn hL hl) k_Re_keepEvent l_Re_64 (by decide +kernel) (by omega) rfl rfl rfl rfl (Nat.le_of_ble_eq_true rfl) (by decide) ⟨by decide, by decide⟩ ?_
          rintro σ1 ⟨hf, hr⟩
          refine g_goto (off := 34) (tgt := 98) (by decide +kernel) (by decide) ?_
          refine g_retV (by decide +kernel) rfl ⟨by decide, by decide⟩ ?_
          first
            | (have hz : zRp σ1 (L ++ [((0, σ 182 0, (k : Int), σ 36 k) : Int × Int × Int × Int)]) := hr
               exact ⟨hf, by unfold zev1; rw [if_pos ⟨by omega, decide_eq_false (by omega)⟩]; exact hz⟩)
            | (have hz : zRp σ1 (L ++ [((1, σ 182 0, (k : Int), -1) : Int × Int × Int × Int)]) := hr
               exact ⟨hf, by unfold zev1; rw [if_neg (fun q => by have := q.1; omega), if_pos ⟨by omega, decide_eq_true (by omega)⟩]; exact hz⟩)
            | (have hz : zRp σ1 (L ++ [((2, σ 182 0, (k : Int), σ 36 k) : Int × Int × Int × Int)]) := hr
               exact ⟨hf, by unfold zev1; rw [if_neg (fun q => by have := of_decide_eq_false q.2; omega), if_neg (fun q => by have := q.1; omega), if_pos ⟨by omega, by omega⟩]; exact hz⟩)
            | (have e0 : zev1 (σ 182 0) k (σ 35 k) (σ 36 k) (σ 37 k) (decide (σ 187 k = 1)) (σ 188 k) = [] := by
                 unfold zev1
                 rw [if_neg (fun q => by have := of_decide_eq_false q.2; omega), if_neg (fun q => by have := of_decide_eq_true q.2; omega), if_neg (fun q => by omega)]
               exact ⟨zRf.rf σ, by rw [e0, List.append_nil]; exact hL⟩)
    · refine g_aload_n (i := 0) (by decide +kernel) rfl ?_
      refine g_getr f_Re_24 (by decide +kernel) (by omega) rfl rfl ?_
      refine g_iload_n (i := 2) (by decide +kernel) rfl ?_
      refine g_zald (by decide +kernel) (by omega) rfl rfl (by omega) (by decide) ?_
      refine g_if_ne (off := 18) (tgt := 44) (by decide +kernel) (by decide) ⟨by omega, by omega⟩ (fun h26 => ?_) (fun h26 => ?_)
      · refine g_iload_n (i := 3) (by decide +kernel) rfl ?_
        refine g_if_ne (off := 22) (tgt := 67) (by decide +kernel) (by decide) ⟨by omega, by omega⟩ (fun h45 => ?_) (fun h45 => ?_)
        · refine g_iload_n (i := 3) (by decide +kernel) rfl ?_
          refine g_if_eq (off := 30) (tgt := 98) (by decide +kernel) (by decide) ⟨by omega, by omega⟩ (fun h68 => ?_) (fun h68 => ?_)
          · refine g_retV (by decide +kernel) rfl ⟨by decide, by decide⟩ ?_
            first
              | (have hz : zRp σ1 (L ++ [((0, σ 182 0, (k : Int), σ 36 k) : Int × Int × Int × Int)]) := hr
                 exact ⟨hf, by unfold zev1; rw [if_pos ⟨by omega, decide_eq_false (by omega)⟩]; exact hz⟩)
              | (have hz : zRp σ1 (L ++ [((1, σ 182 0, (k : Int), -1) : Int × Int × Int × Int)]) := hr
                 exact ⟨hf, by unfold zev1; rw [if_neg (fun q => by have := q.1; omega), if_pos ⟨by omega, decide_eq_true (by omega)⟩]; exact hz⟩)
              | (have hz : zRp σ1 (L ++ [((2, σ 182 0, (k : Int), σ 36 k) : Int × Int × Int × Int)]) := hr
                 exact ⟨hf, by unfold zev1; rw [if_neg (fun q => by have := of_decide_eq_false q.2; omega), if_neg (fun q => by have := q.1; omega), if_pos ⟨by omega, by omega⟩]; exact hz⟩)
              | (have e0 : zev1 (σ 182 0) k (σ 35 k) (σ 36 k) (σ 37 k) (decide (σ 187 k = 1)) (σ 188 k) = [] := by
                   unfold zev1
                   rw [if_neg (fun q => by have := of_decide_eq_false q.2; omega), if_neg (fun q => by have := of_decide_eq_true q.2; omega), if_neg (fun q => by omega)]
                 exact ⟨zRf.rf σ, by rw [e0, List.append_nil]; exact hL⟩)
          · refine g_aload_n (i := 1) (by decide +kernel) rfl ?_
            refine g_getr f_Re_60 (by decide +kernel) (by omega) rfl rfl ?_
            refine g_iload_n (i := 2) (by decide +kernel) rfl ?_
            refine g_iald (by decide +kernel) (by omega) rfl rfl (by omega) (by decide) ?_
            refine g_aload_n (i := 0) (by decide +kernel) rfl ?_
            refine g_getr f_Re_28 (by decide +kernel) (by omega) rfl rfl ?_
            refine g_iload_n (i := 2) (by decide +kernel) rfl ?_
            refine g_iald (by decide +kernel) (by omega) rfl rfl (by omega) (by decide) ?_
            refine g_icmp_eq (off := 15) (tgt := 98) (by decide +kernel) (by decide) s3 s8 (fun h83 => ?_) (fun h83 => ?_)
            · refine g_retV (by decide +kernel) rfl ⟨by decide, by decide⟩ ?_
              first
                | (have hz : zRp σ1 (L ++ [((0, σ 182 0, (k : Int), σ 36 k) : Int × Int × Int × Int)]) := hr
                   exact ⟨hf, by unfold zev1; rw [if_pos ⟨by omega, decide_eq_false (by omega)⟩]; exact hz⟩)
                | (have hz : zRp σ1 (L ++ [((1, σ 182 0, (k : Int), -1) : Int × Int × Int × Int)]) := hr
                   exact ⟨hf, by unfold zev1; rw [if_neg (fun q => by have := q.1; omega), if_pos ⟨by omega, decide_eq_true (by omega)⟩]; exact hz⟩)
                | (have hz : zRp σ1 (L ++ [((2, σ 182 0, (k : Int), σ 36 k) : Int × Int × Int × Int)]) := hr
                   exact ⟨hf, by unfold zev1; rw [if_neg (fun q => by have := of_decide_eq_false q.2; omega), if_neg (fun q => by have := q.1; omega), if_pos ⟨by omega, by omega⟩]; exact hz⟩)
                | (have e0 : zev1 (σ 182 0) k (σ 35 k) (σ 36 k) (σ 37 k) (decide (σ 187 k = 1)) (σ 188 k) = [] := by
                     unfold zev1
                     rw [if_neg (fun q => by have := of_decide_eq_false q.2; omega), if_neg (fun q => by have := of_decide_eq_true q.2; omega), if_neg (fun q => by omega)]
                   exact ⟨zRf.rf σ, by rw [e0, List.append_nil]; exact hL⟩)
            · refine g_aload_n (i := 0) (by decide +kernel) rfl ?_
              refine g_iconst (a := 2) (by decide +kernel) ?_
              refine g_iload_n (i := 2) (by decide +kernel) rfl ?_
              refine g_aload_n (i := 1) (by decide +kernel) rfl ?_
              refine g_getr f_Re_63 (by decide +kernel) (by omega) rfl rfl ?_
              refine g_iload_n (i := 2) (by decide +kernel) rfl ?_
              refine g_iald (by decide +kernel) (by omega) rfl rfl (by omega) (by decide) ?_
              refine g_cVV (st := []) (c_Re_keepEvent (y := (k : Int)) hn hL hl) k_Re_keepEvent l_Re_64 (by decide +kernel) (by omega) rfl rfl rfl rfl (Nat.le_of_ble_eq_true rfl) (by decide) ⟨by decide, by decide⟩ ?_
              rintro σ1 ⟨hf, hr⟩
              refine g_retV (by decide +kernel) rfl ⟨by decide, by decide⟩ ?_
              first
                | (have hz : zRp σ1 (L ++ [((0, σ 182 0, (k : Int), σ 36 k) : Int × Int × Int × Int)]) := hr
                   exact ⟨hf, by unfold zev1; rw [if_pos ⟨by omega, decide_eq_false (by omega)⟩]; exact hz⟩)
                | (have hz : zRp σ1 (L ++ [((1, σ 182 0, (k : Int), -1) : Int × Int × Int × Int)]) := hr
                   exact ⟨hf, by unfold zev1; rw [if_neg (fun q => by have := q.1; omega), if_pos ⟨by omega, decide_eq_true (by omega)⟩]; exact hz⟩)
                | (have hz : zRp σ1 (L ++ [((2, σ 182 0, (k : Int), σ 36 k) : Int × Int × Int × Int)]) := hr
                   exact ⟨hf, by unfold zev1; rw [if_neg (fun q => by have := of_decide_eq_false q.2; omega), if_neg (fun q => by have := q.1; omega), if_pos ⟨by omega, by omega⟩]; exact hz⟩)
                | (have e0 : zev1 (σ 182 0) k (σ 35 k) (σ 36 k) (σ 37 k) (decide (σ 187 k = 1)) (σ 188 k) = [] := by
                     unfold zev1
                     rw [if_neg (fun q => by have := of_decide_eq_false q.2; omega), if_neg (fun q => by have := of_decide_eq_true q.2; omega), if_neg (fun q => by omega)]
                   exact ⟨zRf.rf σ, by rw [e0, List.append_nil]; exact hL⟩)
        · refine g_aload_n (i := 0) (by decide +kernel) rfl ?_
          refine g_getr f_Re_24 (by decide +kernel) (by omega) rfl rfl ?_
          refine g_iload_n (i := 2) (by decide +kernel) rfl ?_
          refine g_zald (by decide +kernel) (by omega) rfl rfl (by omega) (by decide) ?_
          refine g_if_eq (off := 13) (tgt := 67) (by decide +kernel) (by decide) ⟨by omega, by omega⟩ (fun h54 => ?_) (fun h54 => ?_)
          · refine g_iload_n (i := 3) (by decide +kernel) rfl ?_
            refine g_if_eq (off := 30) (tgt := 98) (by decide +kernel) (by decide) ⟨by omega, by omega⟩ (fun h68 => ?_) (fun h68 => ?_)
            · refine g_retV (by decide +kernel) rfl ⟨by decide, by decide⟩ ?_
              first
                | (have hz : zRp σ1 (L ++ [((0, σ 182 0, (k : Int), σ 36 k) : Int × Int × Int × Int)]) := hr
                   exact ⟨hf, by unfold zev1; rw [if_pos ⟨by omega, decide_eq_false (by omega)⟩]; exact hz⟩)
                | (have hz : zRp σ1 (L ++ [((1, σ 182 0, (k : Int), -1) : Int × Int × Int × Int)]) := hr
                   exact ⟨hf, by unfold zev1; rw [if_neg (fun q => by have := q.1; omega), if_pos ⟨by omega, decide_eq_true (by omega)⟩]; exact hz⟩)
                | (have hz : zRp σ1 (L ++ [((2, σ 182 0, (k : Int), σ 36 k) : Int × Int × Int × Int)]) := hr
                   exact ⟨hf, by unfold zev1; rw [if_neg (fun q => by have := of_decide_eq_false q.2; omega), if_neg (fun q => by have := q.1; omega), if_pos ⟨by omega, by omega⟩]; exact hz⟩)
                | (have e0 : zev1 (σ 182 0) k (σ 35 k) (σ 36 k) (σ 37 k) (decide (σ 187 k = 1)) (σ 188 k) = [] := by
                     unfold zev1
                     rw [if_neg (fun q => by have := of_decide_eq_false q.2; omega), if_neg (fun q => by have := of_decide_eq_true q.2; omega), if_neg (fun q => by omega)]
                   exact ⟨zRf.rf σ, by rw [e0, List.append_nil]; exact hL⟩)
            · refine g_aload_n (i := 1) (by decide +kernel) rfl ?_
              refine g_getr f_Re_60 (by decide +kernel) (by omega) rfl rfl ?_
              refine g_iload_n (i := 2) (by decide +kernel) rfl ?_
              refine g_iald (by decide +kernel) (by omega) rfl rfl (by omega) (by decide) ?_
              refine g_aload_n (i := 0) (by decide +kernel) rfl ?_
              refine g_getr f_Re_28 (by decide +kernel) (by omega) rfl rfl ?_
              refine g_iload_n (i := 2) (by decide +kernel) rfl ?_
              refine g_iald (by decide +kernel) (by omega) rfl rfl (by omega) (by decide) ?_
              refine g_icmp_eq (off := 15) (tgt := 98) (by decide +kernel) (by decide) s3 s8 (fun h83 => ?_) (fun h83 => ?_)
              · refine g_retV (by decide +kernel) rfl ⟨by decide, by decide⟩ ?_
                first
                  | (have hz : zRp σ1 (L ++ [((0, σ 182 0, (k : Int), σ 36 k) : Int × Int × Int × Int)]) := hr
                     exact ⟨hf, by unfold zev1; rw [if_pos ⟨by omega, decide_eq_false (by omega)⟩]; exact hz⟩)
                  | (have hz : zRp σ1 (L ++ [((1, σ 182 0, (k : Int), -1) : Int × Int × Int × Int)]) := hr
                     exact ⟨hf, by unfold zev1; rw [if_neg (fun q => by have := q.1; omega), if_pos ⟨by omega, decide_eq_true (by omega)⟩]; exact hz⟩)
                  | (have hz : zRp σ1 (L ++ [((2, σ 182 0, (k : Int), σ 36 k) : Int × Int × Int × Int)]) := hr
                     exact ⟨hf, by unfold zev1; rw [if_neg (fun q => by have := of_decide_eq_false q.2; omega), if_neg (fun q => by have := q.1; omega), if_pos ⟨by omega, by omega⟩]; exact hz⟩)
                  | (have e0 : zev1 (σ 182 0) k (σ 35 k) (σ 36 k) (σ 37 k) (decide (σ 187 k = 1)) (σ 188 k) = [] := by
                       unfold zev1
                       rw [if_neg (fun q => by have := of_decide_eq_false q.2; omega), if_neg (fun q => by have := of_decide_eq_true q.2; omega), if_neg (fun q => by omega)]
                     exact ⟨zRf.rf σ, by rw [e0, List.append_nil]; exact hL⟩)
              · refine g_aload_n (i := 0) (by decide +kernel) rfl ?_
                refine g_iconst (a := 2) (by decide +kernel) ?_
                refine g_iload_n (i := 2) (by decide +kernel) rfl ?_
                refine g_aload_n (i := 1) (by decide +kernel) rfl ?_
                refine g_getr f_Re_63 (by decide +kernel) (by omega) rfl rfl ?_
                refine g_iload_n (i := 2) (by decide +kernel) rfl ?_
                refine g_iald (by decide +kernel) (by omega) rfl rfl (by omega) (by decide) ?_
                refine g_cVV (st := []) (c_Re_keepEvent (y := (k : Int)) hn hL hl) k_Re_keepEvent l_Re_64 (by decide +kernel) (by omega) rfl rfl rfl rfl (Nat.le_of_ble_eq_true rfl) (by decide) ⟨by decide, by decide⟩ ?_
                rintro σ1 ⟨hf, hr⟩
                refine g_retV (by decide +kernel) rfl ⟨by decide, by decide⟩ ?_
                first
                  | (have hz : zRp σ1 (L ++ [((0, σ 182 0, (k : Int), σ 36 k) : Int × Int × Int × Int)]) := hr
                     exact ⟨hf, by unfold zev1; rw [if_pos ⟨by omega, decide_eq_false (by omega)⟩]; exact hz⟩)
                  | (have hz : zRp σ1 (L ++ [((1, σ 182 0, (k : Int), -1) : Int × Int × Int × Int)]) := hr
                     exact ⟨hf, by unfold zev1; rw [if_neg (fun q => by have := q.1; omega), if_pos ⟨by omega, decide_eq_true (by omega)⟩]; exact hz⟩)
                  | (have hz : zRp σ1 (L ++ [((2, σ 182 0, (k : Int), σ 36 k) : Int × Int × Int × Int)]) := hr
                     exact ⟨hf, by unfold zev1; rw [if_neg (fun q => by have := of_decide_eq_false q.2; omega), if_neg (fun q => by have := q.1; omega), if_pos ⟨by omega, by omega⟩]; exact hz⟩)
                  | (have e0 : zev1 (σ 182 0) k (σ 35 k) (σ 36 k) (σ 37 k) (decide (σ 187 k = 1)) (σ 188 k) = [] := by
                       unfold zev1
                       rw [if_neg (fun q => by have := of_decide_eq_false q.2; omega), if_neg (fun q => by have := of_decide_eq_true q.2; omega), if_neg (fun q => by omega)]
                     exact ⟨zRf.rf σ, by rw [e0, List.append_nil]; exact hL⟩)
          · refine g_aload_n (i := 0) (by decide +kernel) rfl ?_
            refine g_iconst (a := 1) (by decide +kernel) ?_
            refine g_iload_n (i := 2) (by decide +kernel) rfl ?_
            refine g_iconst (a := -1) (by decide +kernel) ?_
            refine g_cVV (st := []) (c_Re_keepEvent (y := (k : Int)) hn hL hl) k_Re_keepEvent l_Re_64 (by decide +kernel) (by omega) rfl rfl rfl rfl (Nat.le_of_ble_eq_true rfl) (by decide) ⟨by decide, by decide⟩ ?_
            rintro σ1 ⟨hf, hr⟩
            refine g_goto (off := 34) (tgt := 98) (by decide +kernel) (by decide) ?_
            refine g_retV (by decide +kernel) rfl ⟨by decide, by decide⟩ ?_
            first
              | (have hz : zRp σ1 (L ++ [((0, σ 182 0, (k : Int), σ 36 k) : Int × Int × Int × Int)]) := hr
                 exact ⟨hf, by unfold zev1; rw [if_pos ⟨by omega, decide_eq_false (by omega)⟩]; exact hz⟩)
              | (have hz : zRp σ1 (L ++ [((1, σ 182 0, (k : Int), -1) : Int × Int × Int × Int)]) := hr
                 exact ⟨hf, by unfold zev1; rw [if_neg (fun q => by have := q.1; omega), if_pos ⟨by omega, decide_eq_true (by omega)⟩]; exact hz⟩)
              | (have hz : zRp σ1 (L ++ [((2, σ 182 0, (k : Int), σ 36 k) : Int × Int × Int × Int)]) := hr
                 exact ⟨hf, by unfold zev1; rw [if_neg (fun q => by have := of_decide_eq_false q.2; omega), if_neg (fun q => by have := q.1; omega), if_pos ⟨by omega, by omega⟩]; exact hz⟩)
              | (have e0 : zev1 (σ 182 0) k (σ 35 k) (σ 36 k) (σ 37 k) (decide (σ 187 k = 1)) (σ 188 k) = [] := by
                   unfold zev1
                   rw [if_neg (fun q => by have := of_decide_eq_false q.2; omega), if_neg (fun q => by have := of_decide_eq_true q.2; omega), if_neg (fun q => by omega)]
                 exact ⟨zRf.rf σ, by rw [e0, List.append_nil]; exact hL⟩)
      · refine g_aload_n (i := 0) (by decide +kernel) rfl ?_
        refine g_iconst (a := 0) (by decide +kernel) ?_
        refine g_iload_n (i := 2) (by decide +kernel) rfl ?_
        refine g_aload_n (i := 1) (by decide +kernel) rfl ?_
        refine g_getr f_Re_63 (by decide +kernel) (by omega) rfl rfl ?_
        refine g_iload_n (i := 2) (by decide +kernel) rfl ?_
        refine g_iald (by decide +kernel) (by omega) rfl rfl (by omega) (by decide) ?_
        refine g_cVV (st := []) (c_Re_keepEvent (y := (k : Int)) hn hL hl) k_Re_keepEvent l_Re_64 (by decide +kernel) (by omega) rfl rfl rfl rfl (Nat.le_of_ble_eq_true rfl) (by decide) ⟨by decide, by decide⟩ ?_
        rintro σ1 ⟨hf, hr⟩
        refine g_goto (off := 57) (tgt := 98) (by decide +kernel) (by decide) ?_
        refine g_retV (by decide +kernel) rfl ⟨by decide, by decide⟩ ?_
        first
          | (have hz : zRp σ1 (L ++ [((0, σ 182 0, (k : Int), σ 36 k) : Int × Int × Int × Int)]) := hr
             exact ⟨hf, by unfold zev1; rw [if_pos ⟨by omega, decide_eq_false (by omega)⟩]; exact hz⟩)
          | (have hz : zRp σ1 (L ++ [((1, σ 182 0, (k : Int), -1) : Int × Int × Int × Int)]) := hr
             exact ⟨hf, by unfold zev1; rw [if_neg (fun q => by have := q.1; omega), if_pos ⟨by omega, decide_eq_true (by omega)⟩]; exact hz⟩)
          | (have hz : zRp σ1 (L ++ [((2, σ 182 0, (k : Int), σ 36 k) : Int × Int × Int × Int)]) := hr
             exact ⟨hf, by unfold zev1; rw [if_neg (fun q => by have := of_decide_eq_false q.2; omega), if_neg (fun q => by have := q.1; omega), if_pos ⟨by omega, by omega⟩]; exact hz⟩)
          | (have e0 : zev1 (σ 182 0) k (σ 35 k) (σ 36 k) (σ 37 k) (decide (σ 187 k = 1)) (σ 188 k) = [] := by
               unfold zev1
               rw [if_neg (fun q => by have := of_decide_eq_false q.2; omega), if_neg (fun q => by have := of_decide_eq_true q.2; omega), if_neg (fun q => by omega)]
             exact ⟨zRf.rf σ, by rw [e0, List.append_nil]; exact hL⟩)
theorem w_Re_remember {G : zG} {X : zX} {n : Nat} {σ : zSt} {N : Nat} (hn : 189 ≤ n) (hN : N ≤ 12) (hs : ∀ k, k < 12 → 0 ≤ σ 35 k ∧ σ 35 k ≤ 4) : ∀ (m : Nat) (i : Nat) (x3 : Int) (τ : zSt), x3 = (i : Int) → (∀ a, a ≠ 187 → a ≠ 188 → τ a = σ a) → (∀ k, k < i → τ 187 k = (if σ 35 k = 2 then 1 else 0) ∧ τ 188 k = σ 37 k) → i ≤ N → N < i + m → Go G X m_Re_remember (0, 0, 0, 0, 0) n SH τ 2 [(0, vr G 182), (1, vr G 34), (2, vi (N : Int)), (3, vi x3)] [] (zV n SH (fun σ' => (∀ a, a ≠ 187 → a ≠ 188 → σ' a = σ a) ∧ ∀ k, k < N → σ' 187 k = (if σ 35 k = 2 then 1 else 0) ∧ σ' 188 k = σ 37 k)) := by
  intro m
  induction m with
  | zero => intro i x3 τ e3 h1 h2 hi hm; exact absurd hm (by omega)
  | succ m ih =>
    intro i x3 τ e3 h1 h2 hi hm
    subst e3
    have s35 : τ 35 = σ 35 := h1 35 (by decide) (by decide)
    have s37 : τ 37 = σ 37 := h1 37 (by decide) (by decide)
    refine g_iload_n (i := 3) (by decide +kernel) rfl ?_
    refine g_iload_n (i := 2) (by decide +kernel) rfl ?_
    refine g_icmp_ge (off := 42) (tgt := 46) (by decide +kernel) (by decide) ⟨by omega, by omega⟩ ⟨by omega, by omega⟩ (fun h4 => ?_) (fun h4 => ?_)
    · refine g_retV (by decide +kernel) rfl ⟨by decide, by decide⟩ ?_
      exact ⟨h1, fun k hk => h2 k (by omega)⟩
    · have hs1 := hs i (by omega)
      rw [← s35] at hs1
      refine g_aload_n (i := 0) (by decide +kernel) rfl ?_
      refine g_getr f_Re_24 (by decide +kernel) (by omega) rfl rfl ?_
      refine g_iload_n (i := 3) (by decide +kernel) rfl ?_
      refine g_aload_n (i := 1) (by decide +kernel) rfl ?_
      refine g_getr f_Re_55 (by decide +kernel) (by omega) rfl rfl ?_
      refine g_iload_n (i := 3) (by decide +kernel) rfl ?_
      refine g_iald (j := i) (by decide +kernel) (by omega) rfl rfl (by omega) (by decide) ?_
      refine g_iconst (a := 2) (by decide +kernel) ?_
      refine g_icmp_ne (off := 7) (tgt := 26) (by decide +kernel) (by decide) ⟨by omega, by omega⟩ ⟨by omega, by omega⟩ (fun h19 => ?_) (fun h19 => ?_)
      · have hv : (0 : Int) = (if σ 35 i = 2 then 1 else 0) := by rw [if_neg (by rw [s35] at h19; exact h19)]
        refine g_iconst (a := 0) (by decide +kernel) ?_
        refine g_zast (j := i) (by decide +kernel) (by omega) rfl rfl (by omega) (by decide) (by omega) ?_
        refine g_aload_n (i := 0) (by decide +kernel) rfl ?_
        refine g_getr f_Re_28 (by decide +kernel) (by omega) rfl rfl ?_
        refine g_iload_n (i := 3) (by decide +kernel) rfl ?_
        refine g_aload_n (i := 1) (by decide +kernel) rfl ?_
        refine g_getr f_Re_60 (by decide +kernel) (by omega) rfl rfl ?_
        refine g_iload_n (i := 3) (by decide +kernel) rfl ?_
        refine g_iald (j := i) (by decide +kernel) (by omega) rfl rfl (by omega) (by decide) ?_
        refine g_iast (j := i) (by decide +kernel) (by omega) rfl rfl (by omega) (by decide) ?_
        refine g_iinc (i := 3) (b := 1) (L' := [(0, _), (1, _), (2, _), (3, _)]) (by decide +kernel) rfl rfl rfl ?_
        refine g_goto (off := -41) (tgt := 2) (by decide +kernel) (by decide) ?_
        refine ih (i + 1) _ _ (by push_cast; rfl) (fun a a1 a2 => by rw [zs_other a2, zs_other a1]; exact h1 a a1 a2) (fun k hk => ?_) (by omega) (by omega)
        rw [zs_other (show 187 ≠ 188 by decide), zs_row, zs_row, zs_other (show 188 ≠ 187 by decide), zs_other (show 37 ≠ 187 by decide), s37]
        by_cases z : k = i
        · subst z
          rw [zu_eq, zu_eq]
          exact ⟨hv, rfl⟩
        · rw [zu_ne z, zu_ne z]; exact h2 k (by omega)
      · have hv : (1 : Int) = (if σ 35 i = 2 then 1 else 0) := by rw [if_pos (by rw [s35] at h19; exact h19)]
        refine g_iconst (a := 1) (by decide +kernel) ?_
        refine g_goto (off := 4) (tgt := 27) (by decide +kernel) (by decide) ?_
        refine g_zast (j := i) (by decide +kernel) (by omega) rfl rfl (by omega) (by decide) (by omega) ?_
        refine g_aload_n (i := 0) (by decide +kernel) rfl ?_
        refine g_getr f_Re_28 (by decide +kernel) (by omega) rfl rfl ?_
        refine g_iload_n (i := 3) (by decide +kernel) rfl ?_
        refine g_aload_n (i := 1) (by decide +kernel) rfl ?_
        refine g_getr f_Re_60 (by decide +kernel) (by omega) rfl rfl ?_
        refine g_iload_n (i := 3) (by decide +kernel) rfl ?_
        refine g_iald (j := i) (by decide +kernel) (by omega) rfl rfl (by omega) (by decide) ?_
        refine g_iast (j := i) (by decide +kernel) (by omega) rfl rfl (by omega) (by decide) ?_
        refine g_iinc (i := 3) (b := 1) (L' := [(0, _), (1, _), (2, _), (3, _)]) (by decide +kernel) rfl rfl rfl ?_
        refine g_goto (off := -41) (tgt := 2) (by decide +kernel) (by decide) ?_
        refine ih (i + 1) _ _ (by push_cast; rfl) (fun a a1 a2 => by rw [zs_other a2, zs_other a1]; exact h1 a a1 a2) (fun k hk => ?_) (by omega) (by omega)
        rw [zs_other (show 187 ≠ 188 by decide), zs_row, zs_row, zs_other (show 188 ≠ 187 by decide), zs_other (show 37 ≠ 187 by decide), s37]
        by_cases z : k = i
        · subst z
          rw [zu_eq, zu_eq]
          exact ⟨hv, rfl⟩
        · rw [zu_ne z, zu_ne z]; exact h2 k (by omega)
theorem c_Re_remember {G : zG} {n : Nat} {σ : zSt} {N : Nat} (hn : 189 ≤ n) (hN : N ≤ 12) (hs : ∀ k, k < 12 → 0 ≤ σ 35 k ∧ σ 35 k ≤ 4) : Gm G y_Re_remember m_Re_remember 0 0 0 [vr G 182, vr G 34, vi (N : Int)] n SH σ (zV n SH (fun σ' => (∀ a, a ≠ 187 → a ≠ 188 → σ' a = σ a) ∧ ∀ k, k < N → σ' 187 k = (if σ 35 k = 2 then 1 else 0) ∧ σ' 188 k = σ 37 k)) := by
  refine g_enter (L := [(0, _), (1, _), (2, _)]) (by decide) rfl rfl rfl (Nat.le_of_ble_eq_true rfl) (fun X => ?_)
  refine g_iconst (a := 0) (by decide +kernel) ?_
  refine g_istore_n (i := 3) (L' := [(0, _), (1, _), (2, _), (3, _)]) (by decide +kernel) rfl rfl ?_
  exact w_Re_remember hn hN hs 13 0 _ σ rfl (fun _ _ _ => rfl) (fun k hk => by omega) (by omega) (by omega)
end
section
theorem zOn_eq {σ σ' : zSt} (h : ∀ a, a < 93 → σ' a = σ a) (ho : zOn σ) : zOn σ' := by
  obtain ⟨hg, hV, ⟨l1, l2, l3, l4⟩, hK, hs, hor, hF, hM, h7, hN⟩ := ho
  have E : zEqv (zSv σ 1) (zSv σ' 1) := zEqv.of (fun r hr => h (1 + r) (by omega))
  have V' := hV.eqv E
  obtain ⟨⟨d, r, hv⟩, hV2⟩ := hV
  have fil : ∀ p, p + 8 ≤ 93 → zFilled σ p → zFilled σ' p := fun p hp hq => by
    refine zKp_filled ⟨fun a ha => h a (by omega), by rw [h 33 (by decide)], h 43 (by decide), h 44 (by decide), fun r hr => h _ (by omega), fun i2 hi _ r r1 r2 => ?_⟩ hq
    have := hor.in hg i2 hi
    exact h _ (by omega)
  have mr : ∀ p, p + 8 ≤ 93 → zMr σ p → zMr σ' p := fun p hp hq => by
    have q : ∀ r, r < 8 → σ' (p + r) = σ (p + r) := fun r hr => h _ (by omega)
    unfold zMr at *
    rw [q 1 (by decide), q 2 (by decide), q 3 (by decide), q 4 (by decide), q 5 (by decide), q 6 (by decide), q 7 (by decide), show σ' p = σ p from q 0 (by decide)]
    exact hq
  refine ⟨zGood_eq (fun r hr => h _ (by omega)) hg, V', ⟨?_, ?_, ?_, ?_⟩, fun k hk => ?_, ?_, ?_, ?_, ⟨mr 34 (by decide) hM.1, fun j hj => mr _ (by omega) (hM.2 j hj)⟩, ?_, ?_⟩
  · rw [h 22 (by decide), h 23 (by decide)]; exact E.lay hv l1
  · intro k hk
    rw [h 1 (by decide)] at hk
    rw [h 23 (by decide), h 24 (by decide), h 25 (by decide), h 26 (by decide), E.be hv hk, E.bs hv 12 k hk, E.ok hv hk]
    exact l2 k hk
  · rw [h 26 (by decide)]; exact l3
  · rw [h 21 (by decide), h 1 (by decide), h 7 (by decide), h 23 (by decide)]; exact l4
  · rw [h 1 (by decide)] at hk
    exact zKk_eq (fun a ha => h a (by omega)) (hK k hk)
  · unfold zStood at *
    rw [h 33 (by decide), h 2 (by decide), h 1 (by decide), h 44 (by decide)]
    exact ⟨hs.1, E.stand hs.2⟩
  · unfold zOrd
    rw [h 1 (by decide), h 10 (by decide), h 43 (by decide)]; exact hor
  · rw [h 1 (by decide), h 10 (by decide), h 43 (by decide)]
    intro i hi
    have o := hor.in hg i hi
    have hq := hF i hi
    rw [h _ (by omega)]
    exact ⟨hq.1, fil _ (by omega) hq.2⟩
  · rw [h 33 (by decide), h 1 (by decide), h 10 (by decide), h 21 (by decide), h 43 (by decide)]; exact h7
  · rw [h 34 (by decide)]
    rcases hN with z | z
    · exact Or.inl z
    · exact Or.inr (fil 34 (by decide) z)
theorem zv_low {σ σ' : zSt} (h : ∀ a, a < 34 → σ' a = σ a) (ho : zOn σ) (t : Int) : zv (zSv σ' 1) t = zv (zSv σ 1) t := zv_eqv ho.2.1 (zEqv.of (fun r hr => h (1 + r) (by omega)))
noncomputable def zev (S : zSt) (w : Int) (k : Nat) : List zE4 := zev1 w k (zv S w 1 k) (zv S w 2 k) (zv S w 3 k) (decide (zv S (w - 1) 1 k = 2)) (zv S (w - 1) 3 k)
noncomputable def zevk (S : zSt) (w : Int) : Nat → List zE4
  | 0 => []
  | k + 1 => zevk S w k ++ zev S w k
noncomputable def zlog (S : zSt) (t : Int) : Nat → List zE4
  | 0 => []
  | i + 1 => zlog S t i ++ zevk S (t + (i : Int) + 1) (zN S)
theorem zevk_s (S : zSt) (w : Int) (k : Nat) : zevk S w (k + 1) = zevk S w k ++ zev S w k := rfl
theorem zlog_s (S : zSt) (t : Int) (i : Nat) : zlog S t (i + 1) = zlog S t i ++ zevk S (t + (i : Int) + 1) (zN S) := rfl
theorem zevk_len (S : zSt) (w : Int) : ∀ k, (zevk S w k).length ≤ k
  | 0 => Nat.le_refl 0
  | k + 1 => by
    have a := zevk_len S w k
    have b := zev1_len w k (zv S w 1 k) (zv S w 2 k) (zv S w 3 k) (decide (zv S (w - 1) 1 k = 2)) (zv S (w - 1) 3 k)
    rw [zevk_s, List.length_append]
    unfold zev; omega
theorem zlog_len (S : zSt) (t : Int) (h : zN S ≤ 12) : ∀ i, (zlog S t i).length ≤ 12 * i
  | 0 => Nat.le_refl 0
  | i + 1 => by
    have a := zlog_len S t h i
    have b := zevk_len S (t + (i : Int) + 1) (zN S)
    rw [zlog_s, List.length_append]
    omega
/-- what play leaves -/
def zGo (σ σ' : zSt) (c : Nat) : Prop := (∀ a, (a < 34 ∨ (42 ≤ a ∧ a < 182) ∨ 189 ≤ a) → σ' a = σ a) ∧ zStage σ' ∧ σ' 182 0 = σ 182 0 + c ∧ zRp σ' (zlog (zSv σ 1) (σ 182 0) c)
def zGi (σ τ : zSt) (t : Int) (i : Nat) : Prop := (∀ a, (a < 34 ∨ (42 ≤ a ∧ a < 182) ∨ 189 ≤ a) → τ a = σ a) ∧ zOn τ ∧ τ 182 0 = t + i ∧ zRp τ (zlog (zSv σ 1) t i) ∧ ∀ k, k < (σ 1 0).toNat → τ 187 k = (if zv (zSv σ 1) (t + i) 1 k = 2 then 1 else 0) ∧ τ 188 k = zv (zSv σ 1) (t + i) 3 k ∧ zr (τ 188 k)
theorem zOn.mr {σ : zSt} (h : zOn σ) : zMr σ 34 := h.2.2.2.2.2.2.2.1.1
theorem w2_Re_goOn {G : zG} {X : zX} {n : Nat} {σ τ1 : zSt} {w x3 x2 : Int} {L0 : List zE4} {post : zPost} (hn : 189 ≤ n) (ho : zOn σ) {N : Nat} (eN : σ 1 0 = (N : Int)) (hN : N ≤ 12) (lo : ∀ a, a < 34 → τ1 a = σ a) (o1 : zOn τ1) (l0 : L0.length ≤ 2500) (st : ∀ k, k < N → τ1 35 k = zv (zSv σ 1) w 1 k ∧ τ1 36 k = zv (zSv σ 1) w 2 k ∧ τ1 37 k = zv (zSv σ 1) w 3 k) (pr : ∀ k, k < N → τ1 187 k = (if zv (zSv σ 1) (w - 1) 1 k = 2 then 1 else 0) ∧ τ1 188 k = zv (zSv σ 1) (w - 1) 3 k ∧ zr (τ1 188 k)) (ew : τ1 182 0 = w) (kk : ∀ υ, zRf τ1 υ → zRp υ (L0 ++ zevk (zSv σ 1) w N) → Go G X m_Re_goOn (6, 0, 0, 0, 0) n SH υ 74 [(0, vr G 182), (1, vr G 33), (2, vi x2), (3, vi x3), (4, vr G 34)] [] post) : ∀ (m : Nat) (k : Nat) (x5 : Int) (υ : zSt), x5 = (k : Int) → zRf τ1 υ → zRp υ (L0 ++ zevk (zSv σ 1) w k) → k ≤ N → N < k + m → Go G X m_Re_goOn (6, 0, 0, 0, 0) n SH υ 51 [(0, vr G 182), (1, vr G 33), (2, vi x2), (3, vi x3), (4, vr G 34), (5, vi x5)] [] (post) := by
  intro m
  induction m with
  | zero => intro k x5 υ e5 hf hr hi hm; exact absurd hm (by omega)
  | succ m ih =>
    intro k x5 υ e5 hf hr hi hm
    subst e5
    have eN1 : υ 1 0 = (N : Int) := by rw [hf.1 1 (by decide), lo 1 (by decide)]; exact eN
    have ll := zevk_len (zSv σ 1) w k
    have u : ∀ a, a < 182 → υ a = τ1 a := fun a ha => hf.1 a (Or.inl ha)
    have u7 : υ 187 = τ1 187 := hf.1 187 (by decide)
    have u8 : υ 188 = τ1 188 := hf.1 188 (by decide)
    refine g_iload (i := 5) (by decide +kernel) rfl ?_
    refine g_aload_n (i := 1) (by decide +kernel) rfl ?_
    refine g_cVI (st := [vi (k : Int)]) (c_Sg_clips hn) k_Sg_clips l_Re_44 (by decide +kernel) (by omega) rfl rfl rfl rfl (Nat.le_of_ble_eq_true rfl) (by decide) ⟨by decide, by decide⟩ ?_
    rintro a σ1 ⟨ea, hσ⟩
    obtain rfl := hσ.symm
    have ea : a = (N : Int) := by rw [ea]; exact eN1
    subst ea
    refine g_icmp_ge (off := 17) (tgt := 74) (by decide +kernel) (by decide) ⟨by omega, by omega⟩ ⟨by omega, by omega⟩ (fun h57 => ?_) (fun h57 => ?_)
    · refine g_less [0, 1, 2, 3, 4] rfl (kk _ hf ?_)
      rw [show N = k by omega]; exact hr
    · have mr := o1.mr.2 k (by omega)
      have m1 : 0 ≤ τ1 35 k ∧ τ1 35 k ≤ 4 := mr.1
      have m3 : -1 ≤ τ1 37 k ∧ τ1 37 k ≤ 1000000000 := mr.2.2.1
      have p := pr k (by omega)
      have s := st k (by omega)
      refine g_aload_n (i := 0) (by decide +kernel) rfl ?_
      refine g_aload (i := 4) (by decide +kernel) rfl ?_
      refine g_iload (i := 5) (by decide +kernel) rfl ?_
      refine g_cVV (st := []) (c_Re_noteEvent (k := k) hn (by omega) hr (by rw [List.length_append]; omega) (by rw [u 35 (by decide)]; exact m1) (by rw [u7, p.1]; split; exact Or.inr rfl; exact Or.inl rfl) (by rw [u 37 (by decide)]; exact ⟨by omega, by omega⟩) (by rw [u8]; exact p.2.2)) k_Re_noteEvent l_Re_52 (by decide +kernel) (by omega) rfl rfl rfl rfl (Nat.le_of_ble_eq_true rfl) (by decide) ⟨by decide, by decide⟩ ?_
      rintro υ2 ⟨g1, g2⟩
      refine g_iinc (i := 5) (b := 1) (L' := [(0, _), (1, _), (2, _), (3, _), (4, _), (5, _)]) (by decide +kernel) rfl rfl rfl ?_
      refine g_goto (off := -20) (tgt := 51) (by decide +kernel) (by decide) ?_
      refine ih (k + 1) _ _ (by push_cast; rfl) (hf.tr g1) ?_ (by omega) (by omega)
      rw [zevk_s, ← List.append_assoc]
      rw [u 35 (by decide), u 36 (by decide), u 37 (by decide), u7, u8, hf.2, ew, s.1, s.2.1, s.2.2, p.2.1] at g2
      have e7 : decide (τ1 187 k = 1) = decide (zv (zSv σ 1) (w - 1) 1 k = 2) := by
        rw [p.1]
        by_cases z : zv (zSv σ 1) (w - 1) 1 k = 2
        · rw [if_pos z, decide_eq_true z]; rfl
        · rw [if_neg z, decide_eq_false z]; rfl
      rw [e7] at g2
      exact g2
theorem w_Re_goOn {G : zG} {X : zX} {n : Nat} {σ : zSt} {t : Int} {c : Nat} (hn : 189 ≤ n) (ho : zOn σ) {N : Nat} (eN : σ 1 0 = (N : Int)) (hN : N ≤ 12) (ht : 0 ≤ t ∧ t + c ≤ 1999) (hc : c ≤ 200) (e0 : σ 182 0 = t) : ∀ (m : Nat) (i : Nat) (x3 : Int) (τ : zSt), x3 = (i : Int) → zGi σ τ t i → i ≤ c → c < i + m → Go G X m_Re_goOn (6, 0, 0, 0, 0) n SH τ 23 [(0, vr G 182), (1, vr G 33), (2, vi (c : Int)), (3, vi x3)] [] (zV n SH (fun σ' => zGo σ σ' c)) := by
  intro m
  induction m with
  | zero => intro i x3 τ e3 hG hi hm; exact absurd hm (by omega)
  | succ m ih =>
    intro i x3 τ e3 hG hi hm
    subst e3
    obtain ⟨h1, h2, h3, h4, h5⟩ := id hG
    have NN : zN (zSv σ 1) = N := by show (σ 1 0).toNat = N; omega
    have N1 : (σ 1 0).toNat = N := by omega
    have ll := zlog_len (zSv σ 1) t (by omega) i
    refine g_iload_n (i := 3) (by decide +kernel) rfl ?_
    refine g_iload_n (i := 2) (by decide +kernel) rfl ?_
    refine g_icmp_ge (off := 65) (tgt := 90) (by decide +kernel) (by decide) ⟨by omega, by omega⟩ ⟨by omega, by omega⟩ (fun h25 => ?_) (fun h25 => ?_)
    · refine g_retV (by decide +kernel) rfl ⟨by decide, by decide⟩ ?_
      rw [show c = i by omega]
      exact ⟨h1, h2.2.2, by rw [e0]; exact h3, by rw [e0]; exact h4⟩
    · refine g_aload_n (i := 0) (by decide +kernel) rfl ?_
      refine g_dup (by decide +kernel) rfl ?_
      refine g_geti f_Re_31 (by decide +kernel) (by omega) rfl rfl ?_
      refine g_iconst (a := 1) (by decide +kernel) ?_
      refine g_iadd (by decide +kernel) ?_
      refine g_puti f_Re_31 (by decide +kernel) (by omega) rfl rfl ?_
      refine g_aload_n (i := 1) (by decide +kernel) rfl ?_
      refine g_aload_n (i := 0) (by decide +kernel) rfl ?_
      refine g_geti f_Re_31 (by decide +kernel) (by omega) rfl rfl ?_
      have oz : zOn (zs τ 182 0 (τ 182 0 + 1)) := zOn_eq (fun a ha => zs_other (by omega)) h2
      refine g_cVO (st := []) (c_Sg_at (t := zs τ 182 0 (τ 182 0 + 1) 182 0) hn oz (by rw [zs_eq]; omega)) k_Sg_at l_Re_38 (by decide +kernel) (by omega) rfl rfl rfl rfl (Nat.le_of_ble_eq_true rfl) (by decide) ⟨by decide, by decide⟩ ?_
      rintro q τ1 ⟨eq, hA⟩
      subst eq
      have lo : ∀ a, a < 34 → τ1 a = σ a := fun a ha => by rw [hA.1 a (Or.inl ha), zs_other (by omega)]; exact h1 a (Or.inl ha)
      have o1 : zOn τ1 := hA.on oz
      have ev : zv (zSv (zs τ 182 0 (τ 182 0 + 1)) 1) (zs τ 182 0 (τ 182 0 + 1) 182 0) = zv (zSv σ 1) (t + (i : Int) + 1) := by
        rw [zs_eq, h3]
        exact zv_low (fun a ha => by rw [zs_other (by omega)]; exact h1 a (Or.inl ha)) ho _
      have st : ∀ k, k < N → τ1 35 k = zv (zSv σ 1) (t + (i : Int) + 1) 1 k ∧ τ1 36 k = zv (zSv σ 1) (t + (i : Int) + 1) 2 k ∧ τ1 37 k = zv (zSv σ 1) (t + (i : Int) + 1) 3 k := fun k hk => by
        have e1 : (zs τ 182 0 (τ 182 0 + 1) 1 0).toNat = N := by rw [zs_other (by decide), h1 1 (by decide)]; exact N1
        have q := hA.2.2.1 k (by omega)
        rw [ev] at q
        exact ⟨q 1 (by decide) (by decide), q 2 (by decide) (by decide), q 3 (by decide) (by decide)⟩
      have pr : ∀ k, k < N → τ1 187 k = (if zv (zSv σ 1) (t + (i : Int) + 1 - 1) 1 k = 2 then 1 else 0) ∧ τ1 188 k = zv (zSv σ 1) (t + (i : Int) + 1 - 1) 3 k ∧ zr (τ1 188 k) := fun k hk => by
        rw [hA.1 187 (by decide), hA.1 188 (by decide), zs_other (by decide), zs_other (by decide), show t + (i : Int) + 1 - 1 = t + (i : Int) by omega]
        have q := h5 k (by omega)
        exact q
      refine g_astore (i := 4) (L' := [(0, _), (1, _), (2, _), (3, _), (4, _)]) (by decide +kernel) rfl rfl ?_
      refine g_iconst (a := 0) (by decide +kernel) ?_
      refine g_istore (i := 5) (L' := [(0, _), (1, _), (2, _), (3, _), (4, _), (5, _)]) (by decide +kernel) rfl rfl ?_
      refine w2_Re_goOn (L0 := zlog (zSv σ 1) t i) (w := t + (i : Int) + 1) hn ho eN hN lo o1 (by omega) st pr (by rw [hA.1 182 (by decide), zs_eq, h3]) (fun υ hf hr => ?_) 13 0 _ τ1 rfl (zRf.rf _) ?_ (by omega) (by omega)
      rotate_left
      · rw [show zevk (zSv σ 1) (t + (i : Int) + 1) 0 = [] from rfl, List.append_nil]
        refine ⟨?_, fun q h1 h2 => ?_⟩
        · rw [hA.1 182 (by decide), zs_row, zu_ne (by decide)]; exact h4.1
        · rw [hA.1 183 (by decide), hA.1 184 (by decide), hA.1 185 (by decide), hA.1 186 (by decide), zs_other (by decide), zs_other (by decide), zs_other (by decide), zs_other (by decide)]; exact h4.2 q h1 h2
      have oU : zOn υ := zOn_eq (fun a ha => hf.1 a (by omega)) o1
      have eU : υ 1 0 = (N : Int) := by rw [hf.1 1 (by decide), lo 1 (by decide)]; exact eN
      refine g_aload_n (i := 0) (by decide +kernel) rfl ?_
      refine g_aload (i := 4) (by decide +kernel) rfl ?_
      refine g_aload_n (i := 1) (by decide +kernel) rfl ?_
      refine g_cVI (st := [vr G 34, vr G 182]) (c_Sg_clips hn) k_Sg_clips l_Re_44 (by decide +kernel) (by omega) rfl rfl rfl rfl (Nat.le_of_ble_eq_true rfl) (by decide) ⟨by decide, by decide⟩ ?_
      rintro a σ1 ⟨ea, hσ⟩
      obtain rfl := hσ.symm
      have ea : a = (N : Int) := by rw [ea]; exact eU
      subst ea
      refine g_cVV (st := []) (c_Re_remember (N := N) hn hN (fun k hk => (oU.mr.2 k hk).1)) k_Re_remember l_Re_48 (by decide +kernel) (by omega) rfl rfl rfl rfl (Nat.le_of_ble_eq_true rfl) (by decide) ⟨by decide, by decide⟩ ?_
      rintro τ2 ⟨r1, r2⟩
      refine g_iinc (i := 3) (b := 1) (L' := [(0, _), (1, _), (2, _), (3, _), (4, _)]) (by decide +kernel) rfl rfl rfl ?_
      refine g_goto (off := -64) (tgt := 23) (by decide +kernel) (by decide) ?_
      refine g_less [0, 1, 2, 3] rfl (ih (i + 1) _ _ (by push_cast; rfl) ⟨fun a ha => ?_, zOn_eq (fun a ha => r1 a (by omega) (by omega)) oU, ?_, ?_, fun k hk => ?_⟩ (by omega) (by omega))
      · rw [r1 a (by omega) (by omega), hf.1 a (by omega), hA.1 a (by omega), zs_other (by omega)]; exact h1 a ha
      · rw [r1 182 (by decide) (by decide), hf.2, hA.1 182 (by decide), zs_eq, h3]; push_cast; omega
      · rw [zlog_s, NN]
        refine ⟨by rw [r1 182 (by decide) (by decide)]; exact hr.1, fun q h1 h2 => ?_⟩
        rw [r1 183 (by decide) (by decide), r1 184 (by decide) (by decide), r1 185 (by decide) (by decide), r1 186 (by decide) (by decide)]; exact hr.2 q h1 h2
      · have q := r2 k (by omega)
        have s := st k (by omega)
        have m3 : -1 ≤ τ1 37 k ∧ τ1 37 k ≤ 1000000000 := (o1.mr.2 k (by omega)).2.2.1
        have z3 : zr (τ1 37 k) := ⟨by omega, by omega⟩
        rw [q.1, q.2, hf.1 35 (by decide), hf.1 37 (by decide), show t + ((i + 1 : Nat) : Int) = t + (i : Int) + 1 by push_cast; omega]
        exact ⟨by rw [s.1], s.2.2, z3⟩
theorem c_Re_goOn {G : zG} {n : Nat} {σ : zSt} {c : Nat} (hn : 189 ≤ n) (ho : zOn σ) (ht : 0 ≤ σ 182 0 ∧ σ 182 0 + c ≤ 1999) (hc : c ≤ 200) : Gm G y_Re_goOn m_Re_goOn 6 0 0 [vr G 182, vr G 33, vi (c : Int)] n SH σ (zV n SH (fun σ' => zGo σ σ' c)) := by
  refine g_enter (L := [(0, _), (1, _), (2, _)]) (by decide) rfl rfl rfl (Nat.le_of_ble_eq_true rfl) (fun X => ?_)
  obtain ⟨N, eN⟩ := Int.eq_ofNat_of_zero_le ho.1.1.1
  have hN : N ≤ 12 := by have := ho.1.1.2.1; omega
  have N1 : (σ 1 0).toNat = N := by omega
  refine g_aload_n (i := 0) (by decide +kernel) rfl ?_
  refine g_iconst (a := 0) (by decide +kernel) ?_
  refine g_puti f_Re_35 (by decide +kernel) (by omega) rfl rfl ?_
  refine g_aload_n (i := 0) (by decide +kernel) rfl ?_
  refine g_aload_n (i := 1) (by decide +kernel) rfl ?_
  refine g_aload_n (i := 0) (by decide +kernel) rfl ?_
  refine g_geti f_Re_31 (by decide +kernel) (by omega) rfl rfl ?_
  have oz : zOn (zs σ 182 1 0) := zOn_eq (fun a ha => zs_other (by omega)) ho
  have e0 : zs σ 182 1 0 182 0 = σ 182 0 := by rw [zs_row, zu_ne (by decide)]
  refine g_cVO (st := [vr G 182]) (c_Sg_at (t := zs σ 182 1 0 182 0) hn oz (by rw [e0]; omega)) k_Sg_at l_Re_38 (by decide +kernel) (by omega) rfl rfl rfl rfl (Nat.le_of_ble_eq_true rfl) (by decide) ⟨by decide, by decide⟩ ?_
  rintro q τ1 ⟨eq, hA⟩
  subst eq
  have o1 : zOn τ1 := hA.on oz
  have eU : τ1 1 0 = (N : Int) := by rw [hA.1 1 (by decide), zs_other (by decide)]; exact eN
  have ev : zv (zSv (zs σ 182 1 0) 1) (zs σ 182 1 0 182 0) = zv (zSv σ 1) (σ 182 0) := by
    rw [e0]
    exact zv_low (fun a ha => zs_other (by omega)) ho _
  refine g_aload_n (i := 1) (by decide +kernel) rfl ?_
  refine g_cVI (st := [vr G 34, vr G 182]) (c_Sg_clips hn) k_Sg_clips l_Re_44 (by decide +kernel) (by omega) rfl rfl rfl rfl (Nat.le_of_ble_eq_true rfl) (by decide) ⟨by decide, by decide⟩ ?_
  rintro a σ1 ⟨ea, hσ⟩
  obtain rfl := hσ.symm
  have ea : a = (N : Int) := by rw [ea]; exact eU
  subst ea
  refine g_cVV (st := []) (c_Re_remember (N := N) hn hN (fun k hk => (o1.mr.2 k hk).1)) k_Re_remember l_Re_48 (by decide +kernel) (by omega) rfl rfl rfl rfl (Nat.le_of_ble_eq_true rfl) (by decide) ⟨by decide, by decide⟩ ?_
  rintro τ2 ⟨r1, r2⟩
  refine g_iconst (a := 0) (by decide +kernel) ?_
  refine g_istore_n (i := 3) (L' := [(0, _), (1, _), (2, _), (3, _)]) (by decide +kernel) rfl rfl ?_
  refine w_Re_goOn (t := σ 182 0) hn ho eN hN ht hc rfl (c + 1) 0 _ τ2 rfl ⟨fun a ha => ?_, zOn_eq (fun a ha => r1 a (by omega) (by omega)) o1, ?_, ?_, fun k hk => ?_⟩ (by omega) (by omega)
  · rw [r1 a (by omega) (by omega), hA.1 a (by omega), zs_other (by omega)]
  · rw [r1 182 (by decide) (by decide), hA.1 182 (by decide), e0]; omega
  · refine ⟨?_, fun q h1 h2 => absurd h2 (Nat.not_lt_zero q)⟩
    rw [r1 182 (by decide) (by decide), hA.1 182 (by decide), zs_eq]; rfl
  · have q := r2 k (by omega)
    have e1 : (zs σ 182 1 0 1 0).toNat = N := by rw [zs_other (by decide)]; exact N1
    have s := hA.2.2.1 k (by omega)
    rw [ev] at s
    have m3 : -1 ≤ τ1 37 k ∧ τ1 37 k ≤ 1000000000 := (o1.mr.2 k (by omega)).2.2.1
    have z3 : zr (zv (zSv σ 1) (σ 182 0) 3 k) := by rw [← s 3 (by decide) (by decide)]; exact ⟨by show _ ≤ τ1 37 k; omega, by show τ1 37 k ≤ _; omega⟩
    rw [q.1, q.2, show τ1 35 k = zv (zSv σ 1) (σ 182 0) 1 k from s 1 (by decide) (by decide), show τ1 37 k = zv (zSv σ 1) (σ 182 0) 3 k from s 3 (by decide) (by decide), show σ 182 0 + ((0 : Nat) : Int) = σ 182 0 by omega]
    exact ⟨rfl, rfl, z3⟩
end
section
/-! THE STRETCH (93: first 2, last 3, step 4, local 5; row 94) -/
/-- what clip k plays at t: its local, or -1 -/
noncomputable def zplay (S : zSt) (k : Nat) (t : Nat) : Int := if zv S t 1 k = 2 then zv S t 2 k else -1
def zah (p : Nat → Int) (t : Nat) : Int := if t = 0 then -1 else p (t - 1)
def zgo (p : Nat → Int) (ev : Int) (t : Nat) (x : Nat → Int) : Bool := decide (p t ≠ -1 ∧ zah p t ≠ -1 ∧ (ev = 0 ∨ x 2 = x 3 ∨ x 4 = p t - zah p t))
def zMs (p : Nat → Int) (ev : Int) (t : Nat) (A : Int × (Nat → Int)) : Int × (Nat → Int) :=
  if zgo p ev t A.2 = true then (A.1, zu (if ev ≠ 0 ∧ A.2 2 = A.2 3 then zu A.2 4 (p t - zah p t) else A.2) 3 t)
  else if p t ≠ -1 then (A.1 + 1, zu (zu (zu (zu A.2 2 t) 3 t) 4 0) 5 (p t)) else A
/-- the pieces (ev = 1) or spans (ev = 0) of the times below t: how many, and the last one -/
def zMa (p : Nat → Int) (ev : Int) (x : Nat → Int) : Nat → Int × (Nat → Int)
  | 0 => (0, x)
  | t + 1 => zMs p ev t (zMa p ev x t)
theorem zMa_s (p : Nat → Int) (ev : Int) (x : Nat → Int) (t : Nat) : zMa p ev x (t + 1) = zMs p ev t (zMa p ev x t) := rfl
theorem zMa_n (p : Nat → Int) (ev : Int) (x : Nat → Int) : ∀ t, 0 ≤ (zMa p ev x t).1 ∧ (zMa p ev x t).1 ≤ t
  | 0 => ⟨Int.le_refl 0, Int.le_refl 0⟩
  | t + 1 => by
    have a := zMa_n p ev x t
    rw [zMa_s]
    unfold zMs
    split
    · constructor
      · exact a.1
      · show (zMa p ev x t).1 ≤ _; push_cast; omega
    · split
      · constructor
        · show 0 ≤ (zMa p ev x t).1 + 1; omega
        · show (zMa p ev x t).1 + 1 ≤ _; push_cast; omega
      · exact ⟨a.1, by push_cast; omega⟩
/-- only the stretch and the moment now have changed -/
def zFr (σ τ : zSt) : Prop := (∀ a, (a < 34 ∨ 42 ≤ a) → a ≠ 93 → τ a = σ a) ∧ zOn τ
def zRs (x : Nat → Int) : Prop := ∀ j, 2 ≤ j → j ≤ 5 → zr (x j)
/-- what walk leaves -/
def zWk (σ σ' : zSt) (p : Nat → Int) (ev w a : Int) : Prop := zFr σ σ' ∧ zRs (σ' 93) ∧ ∃ T, T ≤ 2000 ∧ (a, σ' 93) = zMa p ev (σ 93) T ∧ a ≤ w + 1 ∧ (T = 2000 ∨ (zgo p ev T (σ' 93) = false ∧ w < a))
theorem zFr.at {σ τ τ1 : zSt} {t : Int} (h : zFr σ τ) (hA : zAtP τ τ1 t) : zFr σ τ1 ∧ τ1 93 = τ 93 := ⟨⟨fun a ha h93 => by rw [hA.1 a ha]; exact h.1 a ha h93, hA.on h.2⟩, hA.1 93 (by decide)⟩
theorem zFr.v {σ τ : zSt} (h : zFr σ τ) (ho : zOn σ) (t : Int) : zv (zSv τ 1) t = zv (zSv σ 1) t := zv_low (fun a ha => h.1 a (Or.inl ha) (by omega)) ho t
theorem zFr.put {σ τ : zSt} {j : Nat} {v : Int} (h : zFr σ τ) : zFr σ (zs τ 93 j v) := ⟨fun a ha h93 => by rw [zs_other h93]; exact h.1 a ha h93, zOn_eq (fun a ha => zs_other (by omega)) h.2⟩
theorem zRs.put {x : Nat → Int} {j : Nat} {v : Int} (h : zRs x) (hv : zr v) : zRs (zu x j v) := fun i h1 h2 => by
  unfold zu
  split
  · exact hv
  · exact h i h1 h2
theorem c_Sr_keepsStep {G : zG} {n : Nat} {σ : zSt} {c : Int} (hn : 189 ≤ n) (hc : zr c) (hR : zRs (σ 93)) : Gm G y_Sr_keepsStep m_Sr_keepsStep 0 0 0 [vr G 93, vi c] n SH σ (zI n SH (fun a σ' => a = (if σ 93 2 = σ 93 3 ∨ σ 93 4 = c then 1 else 0) ∧ σ' = (if σ 93 2 = σ 93 3 then zs σ 93 4 c else σ))) := by
  refine g_enter (L := [(0, _), (1, _)]) (by decide) rfl rfl rfl (Nat.le_of_ble_eq_true rfl) (fun X => ?_)
  have r2 := hR 2 (by decide) (by decide)
  have r3 := hR 3 (by decide) (by decide)
  have r4 := hR 4 (by decide) (by decide)
  refine g_aload_n (i := 0) (by decide +kernel) rfl ?_
  refine g_geti f_Sr_23 (by decide +kernel) (by omega) rfl rfl ?_
  refine g_aload_n (i := 0) (by decide +kernel) rfl ?_
  refine g_geti f_Sr_27 (by decide +kernel) (by omega) rfl rfl ?_
  refine g_icmp_ne (off := 8) (tgt := 16) (by decide +kernel) (by decide) r2 r3 (fun h8 => ?_) (fun h8 => ?_)
  · refine g_aload_n (i := 0) (by decide +kernel) rfl ?_
    refine g_geti f_Sr_41 (by decide +kernel) (by omega) rfl rfl ?_
    refine g_iload_n (i := 1) (by decide +kernel) rfl ?_
    refine g_icmp_ne (off := 7) (tgt := 28) (by decide +kernel) (by decide) (by first | exact r4 | (rw [zs_eq]; exact hc)) hc (fun h21 => ?_) (fun h21 => ?_)
    · refine g_iconst (a := 0) (by decide +kernel) ?_
      refine g_retI (by decide +kernel) rfl (Or.inr ⟨rfl, by omega⟩) ⟨by decide, by decide⟩ ?_
      first
        | (have hz : σ 93 2 = σ 93 3 := h8
           have e4 : zs σ 93 4 c 93 4 = c := zs_eq _ _ _ _
           first
             | exact absurd e4 h21
             | (rw [if_pos (Or.inl hz), if_pos hz]; exact ⟨rfl, rfl⟩))
        | (have hz : ¬ σ 93 2 = σ 93 3 := h8
           first
             | (have hy : σ 93 4 = c := h21
                rw [if_pos (Or.inr hy), if_neg hz]; exact ⟨rfl, rfl⟩)
             | (rw [if_neg (fun q => by rcases q with q | q; exact hz q; exact h21 q), if_neg hz]; exact ⟨rfl, rfl⟩))
    · refine g_iconst (a := 1) (by decide +kernel) ?_
      refine g_goto (off := 4) (tgt := 29) (by decide +kernel) (by decide) ?_
      refine g_retI (by decide +kernel) rfl (Or.inr ⟨rfl, by omega⟩) ⟨by decide, by decide⟩ ?_
      first
        | (have hz : σ 93 2 = σ 93 3 := h8
           have e4 : zs σ 93 4 c 93 4 = c := zs_eq _ _ _ _
           first
             | exact absurd e4 h21
             | (rw [if_pos (Or.inl hz), if_pos hz]; exact ⟨rfl, rfl⟩))
        | (have hz : ¬ σ 93 2 = σ 93 3 := h8
           first
             | (have hy : σ 93 4 = c := h21
                rw [if_pos (Or.inr hy), if_neg hz]; exact ⟨rfl, rfl⟩)
             | (rw [if_neg (fun q => by rcases q with q | q; exact hz q; exact h21 q), if_neg hz]; exact ⟨rfl, rfl⟩))
  · refine g_aload_n (i := 0) (by decide +kernel) rfl ?_
    refine g_iload_n (i := 1) (by decide +kernel) rfl ?_
    refine g_puti f_Sr_41 (by decide +kernel) (by omega) rfl rfl ?_
    refine g_aload_n (i := 0) (by decide +kernel) rfl ?_
    refine g_geti f_Sr_41 (by decide +kernel) (by omega) rfl rfl ?_
    refine g_iload_n (i := 1) (by decide +kernel) rfl ?_
    refine g_icmp_ne (off := 7) (tgt := 28) (by decide +kernel) (by decide) (by first | exact r4 | (rw [zs_eq]; exact hc)) hc (fun h21 => ?_) (fun h21 => ?_)
    · refine g_iconst (a := 0) (by decide +kernel) ?_
      refine g_retI (by decide +kernel) rfl (Or.inr ⟨rfl, by omega⟩) ⟨by decide, by decide⟩ ?_
      first
        | (have hz : σ 93 2 = σ 93 3 := h8
           have e4 : zs σ 93 4 c 93 4 = c := zs_eq _ _ _ _
           first
             | exact absurd e4 h21
             | (rw [if_pos (Or.inl hz), if_pos hz]; exact ⟨rfl, rfl⟩))
        | (have hz : ¬ σ 93 2 = σ 93 3 := h8
           first
             | (have hy : σ 93 4 = c := h21
                rw [if_pos (Or.inr hy), if_neg hz]; exact ⟨rfl, rfl⟩)
             | (rw [if_neg (fun q => by rcases q with q | q; exact hz q; exact h21 q), if_neg hz]; exact ⟨rfl, rfl⟩))
    · refine g_iconst (a := 1) (by decide +kernel) ?_
      refine g_goto (off := 4) (tgt := 29) (by decide +kernel) (by decide) ?_
      refine g_retI (by decide +kernel) rfl (Or.inr ⟨rfl, by omega⟩) ⟨by decide, by decide⟩ ?_
      first
        | (have hz : σ 93 2 = σ 93 3 := h8
           have e4 : zs σ 93 4 c 93 4 = c := zs_eq _ _ _ _
           first
             | exact absurd e4 h21
             | (rw [if_pos (Or.inl hz), if_pos hz]; exact ⟨rfl, rfl⟩))
        | (have hz : ¬ σ 93 2 = σ 93 3 := h8
           first
             | (have hy : σ 93 4 = c := h21
                rw [if_pos (Or.inr hy), if_neg hz]; exact ⟨rfl, rfl⟩)
             | (rw [if_neg (fun q => by rcases q with q | q; exact hz q; exact h21 q), if_neg hz]; exact ⟨rfl, rfl⟩))
/-- it has counted one more than wanted at most -/
theorem zMa_w {p : Nat → Int} {ev w x4 : Int} {x y : Nat → Int} {t : Nat} (hw : 0 ≤ w) (h : (x4, y) = zMa p ev x t) (hq : ∀ s, s < t → zgo p ev s (zMa p ev x s).2 = false → (zMa p ev x s).1 ≤ w) : x4 ≤ w + 1 := by
  have key : ∀ t, (∀ s, s < t → zgo p ev s (zMa p ev x s).2 = false → (zMa p ev x s).1 ≤ w) → (zMa p ev x t).1 ≤ w + 1 := by
    intro t
    induction t with
    | zero => intro _; show (0 : Int) ≤ w + 1; omega
    | succ t ih =>
      intro hq
      have a := ih (fun s hs => hq s (by omega))
      rw [zMa_s]
      unfold zMs
      split
      · exact a
      · next z =>
        have b := hq t (by omega) (by cases hg : zgo p ev t (zMa p ev x t).2 with | false => rfl | true => exact absurd hg z)
        split
        · show (zMa p ev x t).1 + 1 ≤ w + 1; omega
        · exact a
  have := key t hq
  rw [← h] at this
  exact this
section WALK
variable {σ τ υ : zSt} {p : Nat → Int} {ev w x4 : Int} {t : Nat}
/-- a time that goes on, and one that doesn't -/
theorem zMa_go (h : (x4, τ 93) = zMa p ev (σ 93) t) (hg : zgo p ev t (τ 93) = true) (hU : υ 93 = (if ev ≠ 0 ∧ τ 93 2 = τ 93 3 then zu (τ 93) 4 (p t - zah p t) else τ 93)) : (x4, zs υ 93 3 (t : Int) 93) = zMa p ev (σ 93) (t + 1) := by
  rw [zMa_s, ← h]
  unfold zMs
  rw [if_pos hg, zs_row, hU]
theorem zMa_new (h : (x4, τ 93) = zMa p ev (σ 93) t) (hg : zgo p ev t (τ 93) = false) (hp : p t ≠ -1) : (x4 + 1, zs (zs (zs (zs τ 93 2 (t : Int)) 93 3 (t : Int)) 93 4 0) 93 5 (p t) 93) = zMa p ev (σ 93) (t + 1) := by
  rw [zMa_s, ← h]
  unfold zMs
  rw [if_neg (by rw [hg]; decide), if_pos hp]
  simp only [zs_row]
theorem zMa_not (h : (x4, τ 93) = zMa p ev (σ 93) t) (hg : zgo p ev t (τ 93) = false) (hp : p t = -1) : (x4, τ 93) = zMa p ev (σ 93) (t + 1) := by
  rw [zMa_s, ← h]
  unfold zMs
  rw [if_neg (by rw [hg]; decide), if_neg (fun q => q hp)]
theorem zq_go (h : (x4, τ 93) = zMa p ev (σ 93) t) (hq : ∀ s, s < t → zgo p ev s (zMa p ev (σ 93) s).2 = false → (zMa p ev (σ 93) s).1 ≤ w) (hg : zgo p ev t (τ 93) = true ∨ x4 ≤ w) : ∀ s, s < t + 1 → zgo p ev s (zMa p ev (σ 93) s).2 = false → (zMa p ev (σ 93) s).1 ≤ w := fun s hs => by
  rcases Nat.lt_or_ge s t with z | z
  · exact hq s z
  · rw [show s = t by omega, ← h]
    intro q
    rcases hg with g | g
    · have q : zgo p ev t (τ 93) = false := q
      rw [g] at q; cases q
    · exact g
end WALK
theorem w_Sr_walk {G : zG} {X : zX} {n : Nat} {σ : zSt} {k : Nat} {w ev : Int} (hn : 189 ≤ n) (ho : zOn σ) (hk : k < (σ 1 0).toNat) (hw : zr w ∧ 0 ≤ w) (hev : ev = 0 ∨ ev = 1) : ∀ (m : Nat) (t : Nat) (x4 x5 x6 : Int) (τ : zSt), x6 = (t : Int) → zFr σ τ → (x4, τ 93) = zMa (zplay (zSv σ 1) k) ev (σ 93) t → x5 = zah (zplay (zSv σ 1) k) t → (-1 ≤ x5 ∧ x5 ≤ 1000000000) → zRs (τ 93) → (∀ s, s < t → zgo (zplay (zSv σ 1) k) ev s (zMa (zplay (zSv σ 1) k) ev (σ 93) s).2 = false → (zMa (zplay (zSv σ 1) k) ev (σ 93) s).1 ≤ w) → t ≤ 2000 → 2000 < t + m → Go G X m_Sr_walk (5, 0, 0, 0, 0) n SH τ 9 [(0, vr G 93), (1, vi k), (2, vi w), (3, vi ev), (4, vi x4), (5, vi x5), (6, vi x6)] [] (zI n SH (fun a σ' => zWk σ σ' (zplay (zSv σ 1) k) ev w a)) := by
  intro m
  induction m with
  | zero => intro t x4 x5 x6 τ e6 hF hA0 e5 hx5 hR hq ht hm; exact absurd hm (by omega)
  | succ m ih =>
    intro t x4 x5 x6 τ e6 hF hA0 e5 hx5 hR hq ht hm
    have hc := ho.1.1
    have k12 : k < 12 := by omega
    have nn := zMa_n (zplay (zSv σ 1) k) ev (σ 93) t
    rw [← hA0] at nn
    have n1 : 0 ≤ x4 ∧ x4 ≤ t := nn
    have fw : x4 ≤ w + 1 := zMa_w hw.2 hA0 hq
    have hwr := hw.1
    subst e6
    have J72 : ∀ (υ : zSt), t < 2000 → (-1 ≤ (zplay (zSv σ 1) k) t ∧ (zplay (zSv σ 1) k) t ≤ 1000000000) → zFr σ υ → zRs (υ 93) → zgo (zplay (zSv σ 1) k) ev t (τ 93) = true → υ 93 = (if ev ≠ 0 ∧ τ 93 2 = τ 93 3 then zu (τ 93) 4 ((zplay (zSv σ 1) k) t - zah (zplay (zSv σ 1) k) t) else τ 93) → Go G X m_Sr_walk (5, 0, 0, 0, 0) n SH υ 72 [(0, vr G 93), (1, vi k), (2, vi w), (3, vi ev), (4, vi x4), (5, vi x5), (6, vi (t : Int)), (7, vi ((zplay (zSv σ 1) k) t)), (8, vi 1)] [] (zI n SH (fun a σ' => zWk σ σ' (zplay (zSv σ 1) k) ev w a)) := by
      intro υ ht2 h7 fU rU hgo eU
      have rU2 : zRs (zs υ 93 3 (t : Int) 93) := by rw [zs_row]; exact rU.put ⟨by omega, by omega⟩
      refine g_aload_n (i := 0) (by decide +kernel) rfl ?_
      refine g_iload (i := 6) (by decide +kernel) rfl ?_
      refine g_puti f_Sr_27 (by decide +kernel) (by omega) rfl rfl ?_
      refine g_goto (off := 44) (tgt := 122) (by decide +kernel) (by decide) ?_
      refine g_iload (i := 7) (by decide +kernel) rfl ?_
      refine g_istore (i := 5) (L' := [(0, _), (1, _), (2, _), (3, _), (4, _), (5, _), (6, _), (7, _), (8, _)]) (by decide +kernel) rfl rfl ?_
      refine g_iinc (i := 6) (b := 1) (L' := [(0, _), (1, _), (2, _), (3, _), (4, _), (5, _), (6, _), (7, _), (8, _)]) (by decide +kernel) rfl rfl rfl ?_
      refine g_goto (off := -120) (tgt := 9) (by decide +kernel) (by decide) ?_
      refine g_less [0, 1, 2, 3, 4, 5, 6] rfl (ih (t + 1) _ _ _ _ (by push_cast; rfl) fU.put (zMa_go hA0 hgo eU) (by unfold zah; rw [if_neg (by omega)]; rfl) h7 rU2 (zq_go hA0 hq (Or.inl hgo)) (by omega) (by omega))
    have J81 : ∀ (υ : zSt), t < 2000 → (-1 ≤ (zplay (zSv σ 1) k) t ∧ (zplay (zSv σ 1) k) t ≤ 1000000000) → zFr σ υ → υ 93 = τ 93 → zgo (zplay (zSv σ 1) k) ev t (τ 93) = false → Go G X m_Sr_walk (5, 0, 0, 0, 0) n SH υ 81 [(0, vr G 93), (1, vi k), (2, vi w), (3, vi ev), (4, vi x4), (5, vi x5), (6, vi (t : Int)), (7, vi ((zplay (zSv σ 1) k) t)), (8, vi 0)] [] (zI n SH (fun a σ' => zWk σ σ' (zplay (zSv σ 1) k) ev w a)) := by
      intro υ ht2 h7 fU eU hgo
      have rU : zRs (υ 93) := by rw [eU]; exact hR
      have hA1 : (x4, υ 93) = zMa (zplay (zSv σ 1) k) ev (σ 93) t := by rw [eU]; exact hA0
      have hg1 : zgo (zplay (zSv σ 1) k) ev t (υ 93) = false := by rw [eU]; exact hgo
      refine g_iload (i := 4) (by decide +kernel) rfl ?_
      refine g_iload_n (i := 2) (by decide +kernel) rfl ?_
      refine g_icmp_le (off := 6) (tgt := 90) (by decide +kernel) (by decide) ⟨by omega, by omega⟩ hwr (fun h84 => ?_) (fun h84 => ?_)
      · refine g_iload (i := 7) (by decide +kernel) rfl ?_
        refine g_iconst (a := -1) (by decide +kernel) ?_
        refine g_icmp_eq (off := 29) (tgt := 122) (by decide +kernel) (by decide) ⟨by omega, by omega⟩ ⟨by omega, by omega⟩ (fun h93 => ?_) (fun h93 => ?_)
        · refine g_iload (i := 7) (by decide +kernel) rfl ?_
          refine g_istore (i := 5) (L' := [(0, _), (1, _), (2, _), (3, _), (4, _), (5, _), (6, _), (7, _), (8, _)]) (by decide +kernel) rfl rfl ?_
          refine g_iinc (i := 6) (b := 1) (L' := [(0, _), (1, _), (2, _), (3, _), (4, _), (5, _), (6, _), (7, _), (8, _)]) (by decide +kernel) rfl rfl rfl ?_
          refine g_goto (off := -120) (tgt := 9) (by decide +kernel) (by decide) ?_
          first
            | (have hz : (zplay (zSv σ 1) k) t = -1 := h93
               exact g_less [0, 1, 2, 3, 4, 5, 6] rfl (ih (t + 1) _ _ _ _ (by push_cast; rfl) fU (zMa_not hA1 hg1 hz) (by unfold zah; rw [if_neg (by omega)]; rfl) h7 rU (zq_go hA0 hq (Or.inr (by omega))) (by omega) (by omega)))
            | (have hz : ¬ (zplay (zSv σ 1) k) t = -1 := h93
               refine g_less [0, 1, 2, 3, 4, 5, 6] rfl (ih (t + 1) _ _ _ _ (by push_cast; rfl) fU.put.put.put.put (zMa_new hA1 hg1 hz) (by unfold zah; rw [if_neg (by omega)]; rfl) h7 ?_ (zq_go hA0 hq (Or.inr (by omega))) (by omega) (by omega))
               simp only [zs_row]
               exact (((rU.put ⟨by omega, by omega⟩).put ⟨by omega, by omega⟩).put ⟨by omega, by omega⟩).put ⟨by omega, by omega⟩)
        · refine g_iinc (i := 4) (b := 1) (L' := [(0, _), (1, _), (2, _), (3, _), (4, _), (5, _), (6, _), (7, _), (8, _)]) (by decide +kernel) rfl rfl rfl ?_
          refine g_aload_n (i := 0) (by decide +kernel) rfl ?_
          refine g_iload (i := 6) (by decide +kernel) rfl ?_
          refine g_puti f_Sr_23 (by decide +kernel) (by omega) rfl rfl ?_
          refine g_aload_n (i := 0) (by decide +kernel) rfl ?_
          refine g_iload (i := 6) (by decide +kernel) rfl ?_
          refine g_puti f_Sr_27 (by decide +kernel) (by omega) rfl rfl ?_
          refine g_aload_n (i := 0) (by decide +kernel) rfl ?_
          refine g_iconst (a := 0) (by decide +kernel) ?_
          refine g_puti f_Sr_41 (by decide +kernel) (by omega) rfl rfl ?_
          refine g_aload_n (i := 0) (by decide +kernel) rfl ?_
          refine g_iload (i := 7) (by decide +kernel) rfl ?_
          refine g_puti f_Sr_56 (by decide +kernel) (by omega) rfl rfl ?_
          refine g_iload (i := 7) (by decide +kernel) rfl ?_
          refine g_istore (i := 5) (L' := [(0, _), (1, _), (2, _), (3, _), (4, _), (5, _), (6, _), (7, _), (8, _)]) (by decide +kernel) rfl rfl ?_
          refine g_iinc (i := 6) (b := 1) (L' := [(0, _), (1, _), (2, _), (3, _), (4, _), (5, _), (6, _), (7, _), (8, _)]) (by decide +kernel) rfl rfl rfl ?_
          refine g_goto (off := -120) (tgt := 9) (by decide +kernel) (by decide) ?_
          first
            | (have hz : (zplay (zSv σ 1) k) t = -1 := h93
               exact g_less [0, 1, 2, 3, 4, 5, 6] rfl (ih (t + 1) _ _ _ _ (by push_cast; rfl) fU (zMa_not hA1 hg1 hz) (by unfold zah; rw [if_neg (by omega)]; rfl) h7 rU (zq_go hA0 hq (Or.inr (by omega))) (by omega) (by omega)))
            | (have hz : ¬ (zplay (zSv σ 1) k) t = -1 := h93
               refine g_less [0, 1, 2, 3, 4, 5, 6] rfl (ih (t + 1) _ _ _ _ (by push_cast; rfl) fU.put.put.put.put (zMa_new hA1 hg1 hz) (by unfold zah; rw [if_neg (by omega)]; rfl) h7 ?_ (zq_go hA0 hq (Or.inr (by omega))) (by omega) (by omega))
               simp only [zs_row]
               exact (((rU.put ⟨by omega, by omega⟩).put ⟨by omega, by omega⟩).put ⟨by omega, by omega⟩).put ⟨by omega, by omega⟩)
      · refine g_iload (i := 4) (by decide +kernel) rfl ?_
        refine g_retI (by decide +kernel) rfl (Or.inl rfl) ⟨by decide, by decide⟩ ?_
        exact ⟨fU, rU, t, by omega, hA1, fw, Or.inr ⟨hg1, by omega⟩⟩
    refine g_iload (i := 6) (by decide +kernel) rfl ?_
    refine g_sipush (a := 1999) (by decide +kernel) (by decide) ?_
    refine g_icmp_gt (off := 118) (tgt := 132) (by decide +kernel) (by decide) ⟨by omega, by omega⟩ ⟨by omega, by omega⟩ (fun h14 => ?_) (fun h14 => ?_)
    · refine g_iload (i := 4) (by decide +kernel) rfl ?_
      refine g_retI (by decide +kernel) rfl (Or.inl rfl) ⟨by decide, by decide⟩ ?_
      exact ⟨hF, hR, 2000, Nat.le_refl _, by rw [show (2000 : Nat) = t by omega]; exact hA0, fw, Or.inl rfl⟩
    · refine g_aload_n (i := 0) (by decide +kernel) rfl ?_
      refine g_getr f_Sr_15 (by decide +kernel) (by omega) rfl rfl ?_
      refine g_iload (i := 6) (by decide +kernel) rfl ?_
      refine g_cVO (st := []) (c_Sg_at (t := (t : Int)) hn hF.2 ⟨by omega, by omega⟩) k_Sg_at l_Sr_30 (by decide +kernel) (by omega) rfl rfl rfl rfl (Nat.le_of_ble_eq_true rfl) (by decide) ⟨by decide, by decide⟩ ?_
      rintro q τ1 ⟨eq, hA⟩
      subst eq
      have F1 := hF.at hA
      refine g_iload_n (i := 1) (by decide +kernel) rfl ?_
      have kT : k < (τ 1 0).toNat := by rw [hF.1 1 (by decide) (by decide)]; exact hk
      have mr := F1.1.2.mr.2 k k12
      have ep : (if τ1 35 k = 2 then τ1 36 k else -1) = (zplay (zSv σ 1) k) t := by
        unfold zplay
        rw [show τ1 35 k = zv (zSv σ 1) t 1 k by rw [← hF.v ho]; exact hA.2.2.1 k kT 1 (by decide) (by decide), show τ1 36 k = zv (zSv σ 1) t 2 k by rw [← hF.v ho]; exact hA.2.2.1 k kT 2 (by decide) (by decide)]
      have m2 : -1 ≤ τ1 36 k ∧ τ1 36 k ≤ 1000000000 := mr.2.1
      refine g_cVI (st := []) (c_Mo_playedLocal (b := 34) (k := k) hn mo_34 k12 mr.1) k_Mo_playedLocal l_Sr_44 (by decide +kernel) (by omega) rfl rfl rfl rfl (Nat.le_of_ble_eq_true rfl) (by decide) ⟨by decide, by decide⟩ ?_
      rintro a σ1 ⟨ea, hσ⟩
      obtain rfl := hσ.symm
      have ea : a = (zplay (zSv σ 1) k) t := by rw [ea]; exact ep
      subst ea
      have h7 : -1 ≤ (zplay (zSv σ 1) k) t ∧ (zplay (zSv σ 1) k) t ≤ 1000000000 := by
        rw [← ep]
        split
        · exact m2
        · exact ⟨by decide, by decide⟩
      refine g_istore (i := 7) (L' := [(0, _), (1, _), (2, _), (3, _), (4, _), (5, _), (6, _), (7, _)]) (by decide +kernel) rfl rfl ?_
      refine g_iload (i := 7) (by decide +kernel) rfl ?_
      refine g_iconst (a := -1) (by decide +kernel) ?_
      refine g_icmp_eq (off := 29) (tgt := 64) (by decide +kernel) (by decide) ⟨by omega, by omega⟩ ⟨by omega, by omega⟩ (fun h35 => ?_) (fun h35 => ?_)
      · have hgo : zgo (zplay (zSv σ 1) k) ev t (τ 93) = false := decide_eq_false (fun q => q.1 h35)
        have hU : zFr σ τ1 ∧ τ1 93 = τ 93 := F1
        refine g_iconst (a := 0) (by decide +kernel) ?_
        refine g_istore (i := 8) (L' := [(0, _), (1, _), (2, _), (3, _), (4, _), (5, _), (6, _), (7, _), (8, _)]) (by decide +kernel) rfl rfl ?_
        refine g_iload (i := 8) (by decide +kernel) rfl ?_
        refine g_if_eq (off := 12) (tgt := 81) (by decide +kernel) (by decide) ⟨by omega, by omega⟩ (fun h69 => ?_) (fun h69 => ?_)
        · first
            | exact J81 _ (by omega) h7 hU.1 hU.2 hgo
            | exact absurd h69 (by decide)
        · first
            | exact absurd rfl h69
            | (have hz : ev = 0 := h45
               exact J72 _ (by omega) h7 F1.1 (by rw [F1.2]; exact hR) hgo (by rw [if_neg (fun q => q.1 hz)]; exact F1.2))
            | (refine J72 _ (by omega) h7 ?_ ?_ hgo ?_
               · split
                 · exact F1.1.put
                 · exact F1.1
               · split
                 · rw [zs_row]; exact R1.put cr
                 · exact R1
               · rw [F1.2]
                 by_cases z : τ 93 2 = τ 93 3
                 · rw [if_pos z, if_pos ⟨by omega, z⟩, zs_row, F1.2, e5]
                 · rw [if_neg z, if_neg (fun q => z q.2), F1.2])
      · refine g_iload (i := 5) (by decide +kernel) rfl ?_
        refine g_iconst (a := -1) (by decide +kernel) ?_
        refine g_icmp_eq (off := 23) (tgt := 64) (by decide +kernel) (by decide) ⟨by omega, by omega⟩ ⟨by omega, by omega⟩ (fun h41 => ?_) (fun h41 => ?_)
        · have hgo : zgo (zplay (zSv σ 1) k) ev t (τ 93) = false := decide_eq_false (fun q => q.2.1 (by rw [← e5]; exact h41))
          have hU : zFr σ τ1 ∧ τ1 93 = τ 93 := F1
          refine g_iconst (a := 0) (by decide +kernel) ?_
          refine g_istore (i := 8) (L' := [(0, _), (1, _), (2, _), (3, _), (4, _), (5, _), (6, _), (7, _), (8, _)]) (by decide +kernel) rfl rfl ?_
          refine g_iload (i := 8) (by decide +kernel) rfl ?_
          refine g_if_eq (off := 12) (tgt := 81) (by decide +kernel) (by decide) ⟨by omega, by omega⟩ (fun h69 => ?_) (fun h69 => ?_)
          · first
              | exact J81 _ (by omega) h7 hU.1 hU.2 hgo
              | exact absurd h69 (by decide)
          · first
              | exact absurd rfl h69
              | (have hz : ev = 0 := h45
                 exact J72 _ (by omega) h7 F1.1 (by rw [F1.2]; exact hR) hgo (by rw [if_neg (fun q => q.1 hz)]; exact F1.2))
              | (refine J72 _ (by omega) h7 ?_ ?_ hgo ?_
                 · split
                   · exact F1.1.put
                   · exact F1.1
                 · split
                   · rw [zs_row]; exact R1.put cr
                   · exact R1
                 · rw [F1.2]
                   by_cases z : τ 93 2 = τ 93 3
                   · rw [if_pos z, if_pos ⟨by omega, z⟩, zs_row, F1.2, e5]
                   · rw [if_neg z, if_neg (fun q => z q.2), F1.2])
        · refine g_iload_n (i := 3) (by decide +kernel) rfl ?_
          refine g_if_eq (off := 15) (tgt := 60) (by decide +kernel) (by decide) ⟨by omega, by omega⟩ (fun h45 => ?_) (fun h45 => ?_)
          · have hgo : zgo (zplay (zSv σ 1) k) ev t (τ 93) = true := decide_eq_true ⟨h35, by rw [← e5]; exact h41, Or.inl h45⟩
            refine g_iconst (a := 1) (by decide +kernel) ?_
            refine g_goto (off := 4) (tgt := 65) (by decide +kernel) (by decide) ?_
            refine g_istore (i := 8) (L' := [(0, _), (1, _), (2, _), (3, _), (4, _), (5, _), (6, _), (7, _), (8, _)]) (by decide +kernel) rfl rfl ?_
            refine g_iload (i := 8) (by decide +kernel) rfl ?_
            refine g_if_eq (off := 12) (tgt := 81) (by decide +kernel) (by decide) ⟨by omega, by omega⟩ (fun h69 => ?_) (fun h69 => ?_)
            · first
                | exact J81 _ (by omega) h7 hU.1 hU.2 hgo
                | exact absurd h69 (by decide)
            · first
                | exact absurd rfl h69
                | (have hz : ev = 0 := h45
                   exact J72 _ (by omega) h7 F1.1 (by rw [F1.2]; exact hR) hgo (by rw [if_neg (fun q => q.1 hz)]; exact F1.2))
                | (refine J72 _ (by omega) h7 ?_ ?_ hgo ?_
                   · split
                     · exact F1.1.put
                     · exact F1.1
                   · split
                     · rw [zs_row]; exact R1.put cr
                     · exact R1
                   · rw [F1.2]
                     by_cases z : τ 93 2 = τ 93 3
                     · rw [if_pos z, if_pos ⟨by omega, z⟩, zs_row, F1.2, e5]
                     · rw [if_neg z, if_neg (fun q => z q.2), F1.2])
          · have hev1 : ev = 1 := by omega
            have cr : zr ((zplay (zSv σ 1) k) t - x5) := ⟨by omega, by omega⟩
            have R1 : zRs (τ1 93) := by rw [F1.2]; exact hR
            refine g_aload_n (i := 0) (by decide +kernel) rfl ?_
            refine g_iload (i := 7) (by decide +kernel) rfl ?_
            refine g_iload (i := 5) (by decide +kernel) rfl ?_
            refine g_isub (by decide +kernel) ?_
            refine g_cVI (st := []) (c_Sr_keepsStep hn cr R1) k_Sr_keepsStep l_Sr_52 (by decide +kernel) (by omega) rfl rfl rfl rfl (Nat.le_of_ble_eq_true rfl) (by decide) ⟨by decide, by decide⟩ ?_
            rintro a σ1 ⟨ea, hσ⟩
            obtain rfl := hσ.symm
            subst ea
            refine g_if_eq (off := 7) (tgt := 64) (by decide +kernel) (by decide) zbr (fun h57 => ?_) (fun h57 => ?_)
            · have h57 := zb0.mp h57
              have hgo : zgo (zplay (zSv σ 1) k) ev t (τ 93) = false := decide_eq_false (fun q => by
                have q3 := q.2.2
                rw [← e5] at q3
                rw [F1.2] at h57
                rcases q3 with q3 | q3
                · omega
                · exact h57 q3)
              rw [if_neg (fun q => h57 (Or.inl q))]
              have hU : zFr σ τ1 ∧ τ1 93 = τ 93 := F1
              refine g_iconst (a := 0) (by decide +kernel) ?_
              refine g_istore (i := 8) (L' := [(0, _), (1, _), (2, _), (3, _), (4, _), (5, _), (6, _), (7, _), (8, _)]) (by decide +kernel) rfl rfl ?_
              refine g_iload (i := 8) (by decide +kernel) rfl ?_
              refine g_if_eq (off := 12) (tgt := 81) (by decide +kernel) (by decide) ⟨by omega, by omega⟩ (fun h69 => ?_) (fun h69 => ?_)
              · first
                  | exact J81 _ (by omega) h7 hU.1 hU.2 hgo
                  | exact absurd h69 (by decide)
              · first
                  | exact absurd rfl h69
                  | (have hz : ev = 0 := h45
                     exact J72 _ (by omega) h7 F1.1 (by rw [F1.2]; exact hR) hgo (by rw [if_neg (fun q => q.1 hz)]; exact F1.2))
                  | (refine J72 _ (by omega) h7 ?_ ?_ hgo ?_
                     · split
                       · exact F1.1.put
                       · exact F1.1
                     · split
                       · rw [zs_row]; exact R1.put cr
                       · exact R1
                     · rw [F1.2]
                       by_cases z : τ 93 2 = τ 93 3
                       · rw [if_pos z, if_pos ⟨by omega, z⟩, zs_row, F1.2, e5]
                       · rw [if_neg z, if_neg (fun q => z q.2), F1.2])
            · have h57 := zb1.mp h57
              rw [F1.2] at h57
              have hgo : zgo (zplay (zSv σ 1) k) ev t (τ 93) = true := decide_eq_true ⟨h35, by rw [← e5]; exact h41, Or.inr (by rw [← e5]; exact h57)⟩
              refine g_iconst (a := 1) (by decide +kernel) ?_
              refine g_goto (off := 4) (tgt := 65) (by decide +kernel) (by decide) ?_
              refine g_istore (i := 8) (L' := [(0, _), (1, _), (2, _), (3, _), (4, _), (5, _), (6, _), (7, _), (8, _)]) (by decide +kernel) rfl rfl ?_
              refine g_iload (i := 8) (by decide +kernel) rfl ?_
              refine g_if_eq (off := 12) (tgt := 81) (by decide +kernel) (by decide) ⟨by omega, by omega⟩ (fun h69 => ?_) (fun h69 => ?_)
              · first
                  | exact J81 _ (by omega) h7 hU.1 hU.2 hgo
                  | exact absurd h69 (by decide)
              · first
                  | exact absurd rfl h69
                  | (have hz : ev = 0 := h45
                     exact J72 _ (by omega) h7 F1.1 (by rw [F1.2]; exact hR) hgo (by rw [if_neg (fun q => q.1 hz)]; exact F1.2))
                  | (refine J72 _ (by omega) h7 ?_ ?_ hgo ?_
                     · split
                       · exact F1.1.put
                       · exact F1.1
                     · split
                       · rw [zs_row]; exact R1.put cr
                       · exact R1
                     · rw [F1.2]
                       by_cases z : τ 93 2 = τ 93 3
                       · rw [if_pos z, if_pos ⟨by omega, z⟩, zs_row, F1.2, e5]
                       · rw [if_neg z, if_neg (fun q => z q.2), F1.2])
end
section
theorem c_Sr_walk {G : zG} {n : Nat} {σ : zSt} {k : Nat} {w ev : Int} (hn : 189 ≤ n) (ho : zOn σ) (hk : k < (σ 1 0).toNat) (hR : zRs (σ 93)) (hw : zr w ∧ 0 ≤ w) (hev : ev = 0 ∨ ev = 1) : Gm G y_Sr_walk m_Sr_walk 5 0 0 [vr G 93, vi k, vi w, vi ev] n SH σ (zI n SH (fun a σ' => zWk σ σ' (zplay (zSv σ 1) k) ev w a)) := by
  refine g_enter (L := [(0, _), (1, _), (2, _), (3, _)]) (by decide) rfl rfl rfl (Nat.le_of_ble_eq_true rfl) (fun X => ?_)
  refine g_iconst (a := 0) (by decide +kernel) ?_
  refine g_istore (i := 4) (L' := [(0, _), (1, _), (2, _), (3, _), (4, _)]) (by decide +kernel) rfl rfl ?_
  refine g_iconst (a := -1) (by decide +kernel) ?_
  refine g_istore (i := 5) (L' := [(0, _), (1, _), (2, _), (3, _), (4, _), (5, _)]) (by decide +kernel) rfl rfl ?_
  refine g_iconst (a := 0) (by decide +kernel) ?_
  refine g_istore (i := 6) (L' := [(0, _), (1, _), (2, _), (3, _), (4, _), (5, _), (6, _)]) (by decide +kernel) rfl rfl ?_
  exact w_Sr_walk hn ho hk hw hev 2001 0 _ _ _ σ rfl ⟨fun _ _ _ => rfl, ho⟩ rfl rfl ⟨by decide, by decide⟩ hR (fun s hs => by omega) (by omega) (by omega)
/-- what a count leaves, and what a search -/
def zCt (σ σ' : zSt) (k : Nat) (ev a : Int) : Prop := zFr σ σ' ∧ zRs (σ' 93) ∧ a = (zMa (zplay (zSv σ 1) k) ev (σ 93) 2000).1
def zFd (σ σ' : zSt) (k : Nat) (ev w a : Int) : Prop := zFr σ σ' ∧ zRs (σ' 93) ∧ ((a = 1 ∧ ∃ T, T ≤ 2000 ∧ (w + 1, σ' 93) = zMa (zplay (zSv σ 1) k) ev (σ 93) T ∧ (T = 2000 ∨ zgo (zplay (zSv σ 1) k) ev T (σ' 93) = false)) ∨ (a = 0 ∧ (zMa (zplay (zSv σ 1) k) ev (σ 93) 2000).1 ≤ w))
theorem zWk.ct {σ σ' : zSt} {k : Nat} {ev a : Int} (h : zWk σ σ' (zplay (zSv σ 1) k) ev 2000 a) : zCt σ σ' k ev a := by
  obtain ⟨h1, h2, T, h3, h4, h5, h6⟩ := h
  refine ⟨h1, h2, ?_⟩
  rcases h6 with h6 | h6
  · rw [h6] at h4; exact congrArg Prod.fst h4
  · have := (zMa_n (zplay (zSv σ 1) k) ev (σ 93) T).2
    rw [← h4] at this
    have q : a ≤ (T : Int) := this
    omega
theorem zWk.fd {σ σ' : zSt} {k : Nat} {ev w a : Int} (h : zWk σ σ' (zplay (zSv σ 1) k) ev w a) : zFd σ σ' k ev w (if w < a then 1 else 0) := by
  obtain ⟨h1, h2, T, h3, h4, h5, h6⟩ := h
  refine ⟨h1, h2, ?_⟩
  by_cases z : w < a
  · rw [if_pos z]
    refine Or.inl ⟨rfl, T, h3, by rw [show w + 1 = a by omega]; exact h4, ?_⟩
    rcases h6 with h6 | h6
    · exact Or.inl h6
    · exact Or.inr h6.1
  · rw [if_neg z]
    refine Or.inr ⟨rfl, ?_⟩
    rcases h6 with h6 | h6
    · rw [h6] at h4; rw [← h4]; show a ≤ w; omega
    · omega
/-- where the piece at hand lies -/
theorem zMa_fl (p : Nat → Int) (ev : Int) (x : Nat → Int) : ∀ t, ((zMa p ev x t).1 = 0 ∧ zah p t = -1) ∨ (1 ≤ (zMa p ev x t).1 ∧ 0 ≤ (zMa p ev x t).2 2 ∧ (zMa p ev x t).2 2 ≤ (zMa p ev x t).2 3 ∧ (zMa p ev x t).2 3 < t)
  | 0 => Or.inl ⟨rfl, rfl⟩
  | t + 1 => by
    have a := zMa_fl p ev x t
    have ez : zah p (t + 1) = p t := by unfold zah; rw [if_neg (by omega)]; rfl
    rw [zMa_s, ez]
    unfold zMs
    by_cases hg : zgo p ev t (zMa p ev x t).2 = true
    · rw [if_pos hg]
      have g := of_decide_eq_true hg
      rcases a with ⟨a1, a2⟩ | ⟨a1, a2, a3, a4⟩
      · exact absurd a2 g.2.1
      · have hB : (if ev ≠ 0 ∧ (zMa p ev x t).2 2 = (zMa p ev x t).2 3 then zu (zMa p ev x t).2 4 (p t - zah p t) else (zMa p ev x t).2) 2 = (zMa p ev x t).2 2 := by
          split
          · exact zu_ne (by decide)
          · rfl
        refine Or.inr ⟨a1, ?_, ?_, ?_⟩
        · dsimp only
          rw [zu_ne (by decide), hB]; exact a2
        · dsimp only
          rw [zu_ne (by decide), hB, zu_eq]; omega
        · dsimp only
          rw [zu_eq]; push_cast; omega
    · rw [if_neg hg]
      by_cases hp : p t = -1
      · rw [if_neg (fun q => q hp)]
        rcases a with ⟨a1, a2⟩ | ⟨a1, a2, a3, a4⟩
        · exact Or.inl ⟨a1, hp⟩
        · exact Or.inr ⟨a1, a2, a3, by push_cast; omega⟩
      · rw [if_pos hp]
        have n := zMa_n p ev x t
        refine Or.inr ⟨by show 1 ≤ (zMa p ev x t).1 + 1; omega, ?_, ?_, ?_⟩
        · dsimp only
          rw [zu_ne (by decide), zu_ne (by decide), zu_ne (by decide), zu_eq]; omega
        · dsimp only
          rw [zu_ne (by decide), zu_ne (by decide), zu_ne (by decide), zu_eq, zu_ne (by decide), zu_ne (by decide), zu_eq]; exact Int.le_refl _
        · dsimp only
          rw [zu_ne (by decide), zu_ne (by decide), zu_eq]; push_cast; omega
/-- the first of so many from t on -/
def zfr (q : Nat → Bool) : Nat → Nat → Int
  | 0, _ => -1
  | m + 1, t => if q t = true then (t : Int) else zfr q m (t + 1)
theorem zfr_s (q : Nat → Bool) (m t : Nat) : zfr q (m + 1) t = if q t = true then (t : Int) else zfr q m (t + 1) := rfl
/-- whether a local has come to the wanted one -/
def zrch (st r w : Int) : Bool := decide (r = w ∨ (0 < st ∧ w < r) ∨ (st < 0 ∧ r < w))
theorem c_Sr_countPieces {G : zG} {n : Nat} {σ : zSt} {k : Nat} (hn : 189 ≤ n) (ho : zOn σ) (hk : k < (σ 1 0).toNat) (hR : zRs (σ 93)) : Gm G y_Sr_countPieces m_Sr_countPieces 6 0 0 [vr G 93, vi k] n SH σ (zI n SH (fun a σ' => zCt σ σ' k 1 a)) := by
  refine g_enter (L := [(0, _), (1, _)]) (by decide) rfl rfl rfl (Nat.le_of_ble_eq_true rfl) (fun X => ?_)
  refine g_aload_n (i := 0) (by decide +kernel) rfl ?_
  refine g_iload_n (i := 1) (by decide +kernel) rfl ?_
  refine g_sipush (a := 2000) (by decide +kernel) (by decide) ?_
  refine g_iconst (a := 1) (by decide +kernel) ?_
  refine g_cVI (st := []) (c_Sr_walk (w := 2000) (ev := 1) hn ho hk hR ⟨⟨by decide, by decide⟩, by decide⟩ (Or.inr rfl)) k_Sr_walk l_Sr_19 (by decide +kernel) (by omega) rfl rfl rfl rfl (Nat.le_of_ble_eq_true rfl) (by decide) ⟨by decide, by decide⟩ ?_
  rintro a σ1 hA
  refine g_retI (by decide +kernel) rfl (Or.inl rfl) ⟨by decide, by decide⟩ ?_
  exact hA.ct
theorem c_Sr_findPiece {G : zG} {n : Nat} {σ : zSt} {k : Nat} {w : Int} (hn : 189 ≤ n) (ho : zOn σ) (hk : k < (σ 1 0).toNat) (hR : zRs (σ 93)) (hw : zr w ∧ 0 ≤ w) : Gm G y_Sr_findPiece m_Sr_findPiece 6 0 0 [vr G 93, vi k, vi w] n SH σ (zI n SH (fun a σ' => zFd σ σ' k 1 w a)) := by
  refine g_enter (L := [(0, _), (1, _), (2, _)]) (by decide) rfl rfl rfl (Nat.le_of_ble_eq_true rfl) (fun X => ?_)
  refine g_aload_n (i := 0) (by decide +kernel) rfl ?_
  refine g_iload_n (i := 1) (by decide +kernel) rfl ?_
  refine g_iload_n (i := 2) (by decide +kernel) rfl ?_
  refine g_iconst (a := 1) (by decide +kernel) ?_
  refine g_cVI (st := []) (c_Sr_walk (w := w) (ev := 1) hn ho hk hR hw (Or.inr rfl)) k_Sr_walk l_Sr_19 (by decide +kernel) (by omega) rfl rfl rfl rfl (Nat.le_of_ble_eq_true rfl) (by decide) ⟨by decide, by decide⟩ ?_
  rintro a σ1 hA
  have fd := hA.fd
  have ra : zr a := by
    obtain ⟨-, -, T, t1, t2, -⟩ := id hA
    have q := zMa_n (zplay (zSv σ 1) k) 1 (σ 93) T
    rw [← t2] at q
    have q1 : 0 ≤ a ∧ a ≤ (T : Int) := q
    exact ⟨by omega, by omega⟩
  refine g_iload_n (i := 2) (by decide +kernel) rfl ?_
  refine g_icmp_le (off := 7) (tgt := 15) (by decide +kernel) (by decide) ra hw.1 (fun h8 => ?_) (fun h8 => ?_)
  · refine g_iconst (a := 0) (by decide +kernel) ?_
    refine g_retI (by decide +kernel) rfl (Or.inr ⟨rfl, by omega⟩) ⟨by decide, by decide⟩ ?_
    first
      | (have hz : a ≤ w := h8
         rw [if_neg (by omega)] at fd; exact fd)
      | (rw [if_pos (by omega)] at fd; exact fd)
  · refine g_iconst (a := 1) (by decide +kernel) ?_
    refine g_goto (off := 4) (tgt := 16) (by decide +kernel) (by decide) ?_
    refine g_retI (by decide +kernel) rfl (Or.inr ⟨rfl, by omega⟩) ⟨by decide, by decide⟩ ?_
    first
      | (have hz : a ≤ w := h8
         rw [if_neg (by omega)] at fd; exact fd)
      | (rw [if_pos (by omega)] at fd; exact fd)
theorem c_Sr_countSpans {G : zG} {n : Nat} {σ : zSt} {k : Nat} (hn : 189 ≤ n) (ho : zOn σ) (hk : k < (σ 1 0).toNat) (hR : zRs (σ 93)) : Gm G y_Sr_countSpans m_Sr_countSpans 6 0 0 [vr G 93, vi k] n SH σ (zI n SH (fun a σ' => zCt σ σ' k 0 a)) := by
  refine g_enter (L := [(0, _), (1, _)]) (by decide) rfl rfl rfl (Nat.le_of_ble_eq_true rfl) (fun X => ?_)
  refine g_aload_n (i := 0) (by decide +kernel) rfl ?_
  refine g_iload_n (i := 1) (by decide +kernel) rfl ?_
  refine g_sipush (a := 2000) (by decide +kernel) (by decide) ?_
  refine g_iconst (a := 0) (by decide +kernel) ?_
  refine g_cVI (st := []) (c_Sr_walk (w := 2000) (ev := 0) hn ho hk hR ⟨⟨by decide, by decide⟩, by decide⟩ (Or.inl rfl)) k_Sr_walk l_Sr_19 (by decide +kernel) (by omega) rfl rfl rfl rfl (Nat.le_of_ble_eq_true rfl) (by decide) ⟨by decide, by decide⟩ ?_
  rintro a σ1 hA
  refine g_retI (by decide +kernel) rfl (Or.inl rfl) ⟨by decide, by decide⟩ ?_
  exact hA.ct
theorem c_Sr_findSpan {G : zG} {n : Nat} {σ : zSt} {k : Nat} {w : Int} (hn : 189 ≤ n) (ho : zOn σ) (hk : k < (σ 1 0).toNat) (hR : zRs (σ 93)) (hw : zr w ∧ 0 ≤ w) : Gm G y_Sr_findSpan m_Sr_findSpan 6 0 0 [vr G 93, vi k, vi w] n SH σ (zI n SH (fun a σ' => zFd σ σ' k 0 w a)) := by
  refine g_enter (L := [(0, _), (1, _), (2, _)]) (by decide) rfl rfl rfl (Nat.le_of_ble_eq_true rfl) (fun X => ?_)
  refine g_aload_n (i := 0) (by decide +kernel) rfl ?_
  refine g_iload_n (i := 1) (by decide +kernel) rfl ?_
  refine g_iload_n (i := 2) (by decide +kernel) rfl ?_
  refine g_iconst (a := 0) (by decide +kernel) ?_
  refine g_cVI (st := []) (c_Sr_walk (w := w) (ev := 0) hn ho hk hR hw (Or.inl rfl)) k_Sr_walk l_Sr_19 (by decide +kernel) (by omega) rfl rfl rfl rfl (Nat.le_of_ble_eq_true rfl) (by decide) ⟨by decide, by decide⟩ ?_
  rintro a σ1 hA
  have fd := hA.fd
  have ra : zr a := by
    obtain ⟨-, -, T, t1, t2, -⟩ := id hA
    have q := zMa_n (zplay (zSv σ 1) k) 0 (σ 93) T
    rw [← t2] at q
    have q1 : 0 ≤ a ∧ a ≤ (T : Int) := q
    exact ⟨by omega, by omega⟩
  refine g_iload_n (i := 2) (by decide +kernel) rfl ?_
  refine g_icmp_le (off := 7) (tgt := 15) (by decide +kernel) (by decide) ra hw.1 (fun h8 => ?_) (fun h8 => ?_)
  · refine g_iconst (a := 0) (by decide +kernel) ?_
    refine g_retI (by decide +kernel) rfl (Or.inr ⟨rfl, by omega⟩) ⟨by decide, by decide⟩ ?_
    first
      | (have hz : a ≤ w := h8
         rw [if_neg (by omega)] at fd; exact fd)
      | (rw [if_pos (by omega)] at fd; exact fd)
  · refine g_iconst (a := 1) (by decide +kernel) ?_
    refine g_goto (off := 4) (tgt := 16) (by decide +kernel) (by decide) ?_
    refine g_retI (by decide +kernel) rfl (Or.inr ⟨rfl, by omega⟩) ⟨by decide, by decide⟩ ?_
    first
      | (have hz : a ≤ w := h8
         rw [if_neg (by omega)] at fd; exact fd)
      | (rw [if_pos (by omega)] at fd; exact fd)
theorem w_Sr_firstTimeAt {G : zG} {X : zX} {n : Nat} {σ : zSt} {k : Nat} {w : Int} (hn : 189 ≤ n) (ho : zOn σ) (hk : k < (σ 1 0).toNat) (hR : zRs (σ 93)) (hw : zr w) (hf : 0 ≤ σ 93 2 ∧ σ 93 3 ≤ 1999) : ∀ (m : Nat) (t : Nat) (x3 : Int) (τ : zSt), x3 = (t : Int) → zFr σ τ → τ 93 = σ 93 → zfr (fun t => zrch (σ 93 4) (zv (zSv σ 1) (t : Int) 2 k) w) (σ 93 3 + 1 - σ 93 2).toNat (σ 93 2).toNat = zfr (fun t => zrch (σ 93 4) (zv (zSv σ 1) (t : Int) 2 k) w) (σ 93 3 + 1 - t).toNat t → ((σ 93 2).toNat ≤ t ∧ ((t : Int) ≤ σ 93 3 + 1 ∨ t = (σ 93 2).toNat)) → (σ 93 3 + 1 - t).toNat < m → Go G X m_Sr_firstTimeAt (5, 0, 0, 0, 0) n SH τ 5 [(0, vr G 93), (1, vi k), (2, vi w), (3, vi x3)] [] (zI n SH (fun a σ' => zFr σ σ' ∧ σ' 93 = σ 93 ∧ a = zfr (fun t => zrch (σ 93 4) (zv (zSv σ 1) (t : Int) 2 k) w) (σ 93 3 + 1 - σ 93 2).toNat (σ 93 2).toNat)) := by
  intro m
  induction m with
  | zero => intro t x3 τ e3 hF h93 e1 hi hm; exact absurd hm (by omega)
  | succ m ih =>
    intro t x3 τ e3 hF h93 e1 hi hm
    have hc := ho.1.1
    have k12 : k < 12 := by omega
    have r2 := hR 2 (by decide) (by decide)
    have r3 := hR 3 (by decide) (by decide)
    have r4 := hR 4 (by decide) (by decide)
    have t3 : τ 93 3 = σ 93 3 := by rw [h93]
    have t4 : τ 93 4 = σ 93 4 := by rw [h93]
    subst e3
    refine g_iload_n (i := 3) (by decide +kernel) rfl ?_
    refine g_aload_n (i := 0) (by decide +kernel) rfl ?_
    refine g_geti f_Sr_27 (by decide +kernel) (by omega) rfl rfl ?_
    refine g_icmp_gt (off := 58) (tgt := 68) (by decide +kernel) (by decide) ⟨by omega, by unfold zr at r2 r3; omega⟩ (by rw [t3]; exact r3) (fun h10 => ?_) (fun h10 => ?_)
    · refine g_iconst (a := -1) (by decide +kernel) ?_
      refine g_retI (by decide +kernel) rfl (Or.inl rfl) ⟨by decide, by decide⟩ ?_
      refine ⟨hF, h93, ?_⟩
      rw [e1, show (σ 93 3 + 1 - (t : Int)).toNat = 0 by omega]; rfl
    · have em : (σ 93 3 + 1 - t).toNat = (σ 93 3 + 1 - ((t + 1 : Nat) : Int)).toNat + 1 := by omega
      rw [em, zfr_s] at e1
      refine g_aload_n (i := 0) (by decide +kernel) rfl ?_
      refine g_getr f_Sr_15 (by decide +kernel) (by omega) rfl rfl ?_
      refine g_iload_n (i := 3) (by decide +kernel) rfl ?_
      refine g_cVO (st := []) (c_Sg_at (t := (t : Int)) hn hF.2 ⟨by omega, by omega⟩) k_Sg_at l_Sr_30 (by decide +kernel) (by omega) rfl rfl rfl rfl (Nat.le_of_ble_eq_true rfl) (by decide) ⟨by decide, by decide⟩ ?_
      rintro q τ1 ⟨eq, hA⟩
      subst eq
      have F1 := hF.at hA
      have kT : k < (τ 1 0).toNat := by rw [hF.1 1 (by decide) (by decide)]; exact hk
      have m2 : -1 ≤ τ1 36 k ∧ τ1 36 k ≤ 1000000000 := (F1.1.2.mr.2 k k12).2.1
      have e2 : τ1 36 k = zv (zSv σ 1) t 2 k := by rw [← hF.v ho]; exact hA.2.2.1 k kT 2 (by decide) (by decide)
      have zl : zr (τ1 36 k) := ⟨by omega, by omega⟩
      have e4 : τ1 93 4 = σ 93 4 := by rw [F1.2]; exact t4
      have s4 : zr (τ1 93 4) := by rw [e4]; exact r4
      refine g_getr f_Sr_36 (by decide +kernel) (by omega) rfl rfl ?_
      refine g_iload_n (i := 1) (by decide +kernel) rfl ?_
      refine g_iald (by decide +kernel) (by omega) rfl rfl (by omega) (by decide) ?_
      refine g_istore (i := 4) (L' := [(0, _), (1, _), (2, _), (3, _), (4, _)]) (by decide +kernel) rfl rfl ?_
      refine g_iload (i := 4) (by decide +kernel) rfl ?_
      refine g_iload_n (i := 2) (by decide +kernel) rfl ?_
      refine g_icmp_eq (off := 29) (tgt := 60) (by decide +kernel) (by decide) zl hw (fun h31 => ?_) (fun h31 => ?_)
      · refine g_iload_n (i := 3) (by decide +kernel) rfl ?_
        refine g_retI (by decide +kernel) rfl (Or.inl rfl) ⟨by decide, by decide⟩ ?_
        refine ⟨F1.1, by rw [F1.2]; exact h93, ?_⟩
        rw [e1, if_pos]
        show zrch (σ 93 4) (zv (zSv σ 1) (t : Int) 2 k) w = true
        rw [← e2, ← e4]
        exact decide_eq_true (by omega)
      · refine g_aload_n (i := 0) (by decide +kernel) rfl ?_
        refine g_geti f_Sr_41 (by decide +kernel) (by omega) rfl rfl ?_
        refine g_if_le (off := 9) (tgt := 47) (by decide +kernel) (by decide) s4 (fun h38 => ?_) (fun h38 => ?_)
        · refine g_aload_n (i := 0) (by decide +kernel) rfl ?_
          refine g_geti f_Sr_41 (by decide +kernel) (by omega) rfl rfl ?_
          refine g_if_ge (off := 11) (tgt := 62) (by decide +kernel) (by decide) s4 (fun h51 => ?_) (fun h51 => ?_)
          · refine g_iinc (i := 3) (b := 1) (L' := [(0, _), (1, _), (2, _), (3, _), (4, _)]) (by decide +kernel) rfl rfl rfl ?_
            refine g_goto (off := -60) (tgt := 5) (by decide +kernel) (by decide) ?_
            refine g_less [0, 1, 2, 3] rfl (ih (t + 1) _ _ (by push_cast; rfl) F1.1 (by rw [F1.2]; exact h93) ?_ (by omega) (by omega))
            rw [e1, if_neg]
            show ¬ zrch (σ 93 4) (zv (zSv σ 1) (t : Int) 2 k) w = true
            rw [← e2, ← e4]
            exact fun q => by have := of_decide_eq_true q; omega
          · refine g_iload (i := 4) (by decide +kernel) rfl ?_
            refine g_iload_n (i := 2) (by decide +kernel) rfl ?_
            refine g_icmp_ge (off := 5) (tgt := 62) (by decide +kernel) (by decide) zl hw (fun h57 => ?_) (fun h57 => ?_)
            · refine g_iinc (i := 3) (b := 1) (L' := [(0, _), (1, _), (2, _), (3, _), (4, _)]) (by decide +kernel) rfl rfl rfl ?_
              refine g_goto (off := -60) (tgt := 5) (by decide +kernel) (by decide) ?_
              refine g_less [0, 1, 2, 3] rfl (ih (t + 1) _ _ (by push_cast; rfl) F1.1 (by rw [F1.2]; exact h93) ?_ (by omega) (by omega))
              rw [e1, if_neg]
              show ¬ zrch (σ 93 4) (zv (zSv σ 1) (t : Int) 2 k) w = true
              rw [← e2, ← e4]
              exact fun q => by have := of_decide_eq_true q; omega
            · refine g_iload_n (i := 3) (by decide +kernel) rfl ?_
              refine g_retI (by decide +kernel) rfl (Or.inl rfl) ⟨by decide, by decide⟩ ?_
              refine ⟨F1.1, by rw [F1.2]; exact h93, ?_⟩
              rw [e1, if_pos]
              show zrch (σ 93 4) (zv (zSv σ 1) (t : Int) 2 k) w = true
              rw [← e2, ← e4]
              exact decide_eq_true (by omega)
        · refine g_iload (i := 4) (by decide +kernel) rfl ?_
          refine g_iload_n (i := 2) (by decide +kernel) rfl ?_
          refine g_icmp_gt (off := 16) (tgt := 60) (by decide +kernel) (by decide) zl hw (fun h44 => ?_) (fun h44 => ?_)
          · refine g_iload_n (i := 3) (by decide +kernel) rfl ?_
            refine g_retI (by decide +kernel) rfl (Or.inl rfl) ⟨by decide, by decide⟩ ?_
            refine ⟨F1.1, by rw [F1.2]; exact h93, ?_⟩
            rw [e1, if_pos]
            show zrch (σ 93 4) (zv (zSv σ 1) (t : Int) 2 k) w = true
            rw [← e2, ← e4]
            exact decide_eq_true (by omega)
          · refine g_aload_n (i := 0) (by decide +kernel) rfl ?_
            refine g_geti f_Sr_41 (by decide +kernel) (by omega) rfl rfl ?_
            refine g_if_ge (off := 11) (tgt := 62) (by decide +kernel) (by decide) s4 (fun h51 => ?_) (fun h51 => ?_)
            · refine g_iinc (i := 3) (b := 1) (L' := [(0, _), (1, _), (2, _), (3, _), (4, _)]) (by decide +kernel) rfl rfl rfl ?_
              refine g_goto (off := -60) (tgt := 5) (by decide +kernel) (by decide) ?_
              refine g_less [0, 1, 2, 3] rfl (ih (t + 1) _ _ (by push_cast; rfl) F1.1 (by rw [F1.2]; exact h93) ?_ (by omega) (by omega))
              rw [e1, if_neg]
              show ¬ zrch (σ 93 4) (zv (zSv σ 1) (t : Int) 2 k) w = true
              rw [← e2, ← e4]
              exact fun q => by have := of_decide_eq_true q; omega
            · refine g_iload (i := 4) (by decide +kernel) rfl ?_
              refine g_iload_n (i := 2) (by decide +kernel) rfl ?_
              refine g_icmp_ge (off := 5) (tgt := 62) (by decide +kernel) (by decide) zl hw (fun h57 => ?_) (fun h57 => ?_)
              · refine g_iinc (i := 3) (b := 1) (L' := [(0, _), (1, _), (2, _), (3, _), (4, _)]) (by decide +kernel) rfl rfl rfl ?_
                refine g_goto (off := -60) (tgt := 5) (by decide +kernel) (by decide) ?_
                refine g_less [0, 1, 2, 3] rfl (ih (t + 1) _ _ (by push_cast; rfl) F1.1 (by rw [F1.2]; exact h93) ?_ (by omega) (by omega))
                rw [e1, if_neg]
                show ¬ zrch (σ 93 4) (zv (zSv σ 1) (t : Int) 2 k) w = true
                rw [← e2, ← e4]
                exact fun q => by have := of_decide_eq_true q; omega
              · refine g_iload_n (i := 3) (by decide +kernel) rfl ?_
                refine g_retI (by decide +kernel) rfl (Or.inl rfl) ⟨by decide, by decide⟩ ?_
                refine ⟨F1.1, by rw [F1.2]; exact h93, ?_⟩
                rw [e1, if_pos]
                show zrch (σ 93 4) (zv (zSv σ 1) (t : Int) 2 k) w = true
                rw [← e2, ← e4]
                exact decide_eq_true (by omega)
theorem c_Sr_firstTimeAt {G : zG} {n : Nat} {σ : zSt} {k : Nat} {w : Int} (hn : 189 ≤ n) (ho : zOn σ) (hk : k < (σ 1 0).toNat) (hR : zRs (σ 93)) (hw : zr w) (hf : 0 ≤ σ 93 2 ∧ σ 93 3 ≤ 1999) : Gm G y_Sr_firstTimeAt m_Sr_firstTimeAt 5 0 0 [vr G 93, vi k, vi w] n SH σ (zI n SH (fun a σ' => zFr σ σ' ∧ σ' 93 = σ 93 ∧ a = zfr (fun t => zrch (σ 93 4) (zv (zSv σ 1) (t : Int) 2 k) w) (σ 93 3 + 1 - σ 93 2).toNat (σ 93 2).toNat)) := by
  refine g_enter (L := [(0, _), (1, _), (2, _)]) (by decide) rfl rfl rfl (Nat.le_of_ble_eq_true rfl) (fun X => ?_)
  refine g_aload_n (i := 0) (by decide +kernel) rfl ?_
  refine g_geti f_Sr_23 (by decide +kernel) (by omega) rfl rfl ?_
  refine g_istore_n (i := 3) (L' := [(0, _), (1, _), (2, _), (3, _)]) (by decide +kernel) rfl rfl ?_
  exact w_Sr_firstTimeAt hn ho hk hR hw hf ((σ 93 3 + 1 - σ 93 2).toNat + 1) (σ 93 2).toNat _ σ (by omega) ⟨fun _ _ _ => rfl, ho⟩ rfl (by rw [show ((σ 93 2).toNat : Int) = σ 93 2 by omega]) ⟨Nat.le_refl _, Or.inr rfl⟩ (by omega)
end
