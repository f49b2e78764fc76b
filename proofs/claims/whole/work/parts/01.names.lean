-- ===== PART A: goes FIRST, ahead of the names: the tables' words, and 'selects' of the private methods out of them =====
/-- a private method of a class that the tables say can be made, by its rows of tables_1 -/
def lw_okq (q : MethodName × Nat) : Prop := (q.1.cls ≠ "java/lang/invoke/MethodHandle" ∧ q.1.cls ≠ "java/lang/invoke/VarHandle") ∧ Cond.instantiable q.1.cls q.2 ∈ tables_1 ∧ Cond.privateMethod q.1 ∈ tables_1 ∧ Cond.instanceMethod q.1 ∈ tables_1
theorem lw_p0 : lw_okq (⟨"PartsFerry", "putFour", "(I)V"⟩, 16) := ⟨⟨by decide +kernel, by decide +kernel⟩, List.mem_of_getElem? (i := 26) (by decide +kernel), List.mem_of_getElem? (i := 515) (by decide +kernel), List.mem_of_getElem? (i := 516) (by decide +kernel)⟩
theorem lw_p1 : lw_okq (⟨"PartsFerry$Tokens", "stepWord", "()V"⟩, 7) := ⟨⟨by decide +kernel, by decide +kernel⟩, List.mem_of_getElem? (i := 155) (by decide +kernel), List.mem_of_getElem? (i := 549) (by decide +kernel), List.mem_of_getElem? (i := 550) (by decide +kernel)⟩
theorem lw_p2 : lw_okq (⟨"PartsFerry$Tokens", "stepNumber", "()V"⟩, 7) := ⟨⟨by decide +kernel, by decide +kernel⟩, List.mem_of_getElem? (i := 155) (by decide +kernel), List.mem_of_getElem? (i := 556) (by decide +kernel), List.mem_of_getElem? (i := 557) (by decide +kernel)⟩
theorem lw_p3 : lw_okq (⟨"PartsFerry$Tokens", "stepSign", "()V"⟩, 7) := ⟨⟨by decide +kernel, by decide +kernel⟩, List.mem_of_getElem? (i := 155) (by decide +kernel), List.mem_of_getElem? (i := 561) (by decide +kernel), List.mem_of_getElem? (i := 562) (by decide +kernel)⟩
theorem lw_p4 : lw_okq (⟨"PartsFerry$Reader", "readLine", "()V"⟩, 9) := ⟨⟨by decide +kernel, by decide +kernel⟩, List.mem_of_getElem? (i := 149) (by decide +kernel), List.mem_of_getElem? (i := 568) (by decide +kernel), List.mem_of_getElem? (i := 569) (by decide +kernel)⟩
theorem lw_p5 : lw_okq (⟨"PartsFerry$Reader", "readMan", "()V"⟩, 9) := ⟨⟨by decide +kernel, by decide +kernel⟩, List.mem_of_getElem? (i := 149) (by decide +kernel), List.mem_of_getElem? (i := 572) (by decide +kernel), List.mem_of_getElem? (i := 573) (by decide +kernel)⟩
theorem lw_p6 : lw_okq (⟨"PartsFerry$Reader", "newOne", "(II)I"⟩, 9) := ⟨⟨by decide +kernel, by decide +kernel⟩, List.mem_of_getElem? (i := 149) (by decide +kernel), List.mem_of_getElem? (i := 576) (by decide +kernel), List.mem_of_getElem? (i := 577) (by decide +kernel)⟩
theorem lw_p7 : lw_okq (⟨"PartsFerry$Reader", "failIf", "(ZI)V"⟩, 9) := ⟨⟨by decide +kernel, by decide +kernel⟩, List.mem_of_getElem? (i := 149) (by decide +kernel), List.mem_of_getElem? (i := 580) (by decide +kernel), List.mem_of_getElem? (i := 581) (by decide +kernel)⟩
theorem lw_p8 : lw_okq (⟨"PartsFerry$Reader", "fail", "(I)V"⟩, 9) := ⟨⟨by decide +kernel, by decide +kernel⟩, List.mem_of_getElem? (i := 149) (by decide +kernel), List.mem_of_getElem? (i := 584) (by decide +kernel), List.mem_of_getElem? (i := 585) (by decide +kernel)⟩
theorem lw_p9 : lw_okq (⟨"PartsFerry$Reader", "number", "(II)I"⟩, 9) := ⟨⟨by decide +kernel, by decide +kernel⟩, List.mem_of_getElem? (i := 149) (by decide +kernel), List.mem_of_getElem? (i := 592) (by decide +kernel), List.mem_of_getElem? (i := 593) (by decide +kernel)⟩
theorem lw_p10 : lw_okq (⟨"PartsFerry$Reader", "readSort", "()V"⟩, 9) := ⟨⟨by decide +kernel, by decide +kernel⟩, List.mem_of_getElem? (i := 149) (by decide +kernel), List.mem_of_getElem? (i := 596) (by decide +kernel), List.mem_of_getElem? (i := 597) (by decide +kernel)⟩
theorem lw_p11 : lw_okq (⟨"PartsFerry$Reader", "readDeed", "()V"⟩, 9) := ⟨⟨by decide +kernel, by decide +kernel⟩, List.mem_of_getElem? (i := 149) (by decide +kernel), List.mem_of_getElem? (i := 600) (by decide +kernel), List.mem_of_getElem? (i := 601) (by decide +kernel)⟩
theorem lw_p12 : lw_okq (⟨"PartsFerry$Reader", "readSend", "()V"⟩, 9) := ⟨⟨by decide +kernel, by decide +kernel⟩, List.mem_of_getElem? (i := 149) (by decide +kernel), List.mem_of_getElem? (i := 604) (by decide +kernel), List.mem_of_getElem? (i := 605) (by decide +kernel)⟩
theorem lw_p13 : lw_okq (⟨"PartsFerry$Reader", "oldOne", "(I)I"⟩, 9) := ⟨⟨by decide +kernel, by decide +kernel⟩, List.mem_of_getElem? (i := 149) (by decide +kernel), List.mem_of_getElem? (i := 608) (by decide +kernel), List.mem_of_getElem? (i := 609) (by decide +kernel)⟩
theorem lw_p14 : lw_okq (⟨"PartsFerry$Reader", "readWant", "()V"⟩, 9) := ⟨⟨by decide +kernel, by decide +kernel⟩, List.mem_of_getElem? (i := 149) (by decide +kernel), List.mem_of_getElem? (i := 612) (by decide +kernel), List.mem_of_getElem? (i := 613) (by decide +kernel)⟩
theorem lw_p15 : lw_okq (⟨"PartsFerry$Reader", "readRoom", "()V"⟩, 9) := ⟨⟨by decide +kernel, by decide +kernel⟩, List.mem_of_getElem? (i := 149) (by decide +kernel), List.mem_of_getElem? (i := 616) (by decide +kernel), List.mem_of_getElem? (i := 617) (by decide +kernel)⟩
def lw_privs_1 : List (MethodName × Nat) := [(⟨"PartsFerry", "putFour", "(I)V"⟩, 16), (⟨"PartsFerry$Tokens", "stepWord", "()V"⟩, 7), (⟨"PartsFerry$Tokens", "stepNumber", "()V"⟩, 7), (⟨"PartsFerry$Tokens", "stepSign", "()V"⟩, 7), (⟨"PartsFerry$Reader", "readLine", "()V"⟩, 9), (⟨"PartsFerry$Reader", "readMan", "()V"⟩, 9), (⟨"PartsFerry$Reader", "newOne", "(II)I"⟩, 9), (⟨"PartsFerry$Reader", "failIf", "(ZI)V"⟩, 9), (⟨"PartsFerry$Reader", "fail", "(I)V"⟩, 9), (⟨"PartsFerry$Reader", "number", "(II)I"⟩, 9), (⟨"PartsFerry$Reader", "readSort", "()V"⟩, 9), (⟨"PartsFerry$Reader", "readDeed", "()V"⟩, 9), (⟨"PartsFerry$Reader", "readSend", "()V"⟩, 9), (⟨"PartsFerry$Reader", "oldOne", "(I)I"⟩, 9), (⟨"PartsFerry$Reader", "readWant", "()V"⟩, 9), (⟨"PartsFerry$Reader", "readRoom", "()V"⟩, 9)]
theorem lw_r1 : ∀ q ∈ lw_privs_1, lw_okq q := List.forall_mem_cons.mpr ⟨lw_p0, List.forall_mem_cons.mpr ⟨lw_p1, List.forall_mem_cons.mpr ⟨lw_p2, List.forall_mem_cons.mpr ⟨lw_p3, List.forall_mem_cons.mpr ⟨lw_p4, List.forall_mem_cons.mpr ⟨lw_p5, List.forall_mem_cons.mpr ⟨lw_p6, List.forall_mem_cons.mpr ⟨lw_p7, List.forall_mem_cons.mpr ⟨lw_p8, List.forall_mem_cons.mpr ⟨lw_p9, List.forall_mem_cons.mpr ⟨lw_p10, List.forall_mem_cons.mpr ⟨lw_p11, List.forall_mem_cons.mpr ⟨lw_p12, List.forall_mem_cons.mpr ⟨lw_p13, List.forall_mem_cons.mpr ⟨lw_p14, List.forall_mem_cons.mpr ⟨lw_p15, fun _ h => absurd h List.not_mem_nil⟩⟩⟩⟩⟩⟩⟩⟩⟩⟩⟩⟩⟩⟩⟩⟩
theorem lw_p16 : lw_okq (⟨"PartsFerry$Reader", "readStorm", "()V"⟩, 9) := ⟨⟨by decide +kernel, by decide +kernel⟩, List.mem_of_getElem? (i := 149) (by decide +kernel), List.mem_of_getElem? (i := 620) (by decide +kernel), List.mem_of_getElem? (i := 621) (by decide +kernel)⟩
theorem lw_p17 : lw_okq (⟨"PartsFerry$Reader", "readSeed", "()V"⟩, 9) := ⟨⟨by decide +kernel, by decide +kernel⟩, List.mem_of_getElem? (i := 149) (by decide +kernel), List.mem_of_getElem? (i := 624) (by decide +kernel), List.mem_of_getElem? (i := 625) (by decide +kernel)⟩
theorem lw_p18 : lw_okq (⟨"PartsFerry$Reader", "readLaw", "()V"⟩, 9) := ⟨⟨by decide +kernel, by decide +kernel⟩, List.mem_of_getElem? (i := 149) (by decide +kernel), List.mem_of_getElem? (i := 629) (by decide +kernel), List.mem_of_getElem? (i := 630) (by decide +kernel)⟩
theorem lw_p19 : lw_okq (⟨"PartsFerry$Formula", "isAtEnd", "()Z"⟩, 7) := ⟨⟨by decide +kernel, by decide +kernel⟩, List.mem_of_getElem? (i := 237) (by decide +kernel), List.mem_of_getElem? (i := 641) (by decide +kernel), List.mem_of_getElem? (i := 642) (by decide +kernel)⟩
theorem lw_p20 : lw_okq (⟨"PartsFerry$Formula", "takeOperand", "()I"⟩, 7) := ⟨⟨by decide +kernel, by decide +kernel⟩, List.mem_of_getElem? (i := 237) (by decide +kernel), List.mem_of_getElem? (i := 649) (by decide +kernel), List.mem_of_getElem? (i := 650) (by decide +kernel)⟩
theorem lw_p21 : lw_okq (⟨"PartsFerry$Formula", "takeOpen", "()I"⟩, 7) := ⟨⟨by decide +kernel, by decide +kernel⟩, List.mem_of_getElem? (i := 237) (by decide +kernel), List.mem_of_getElem? (i := 653) (by decide +kernel), List.mem_of_getElem? (i := 654) (by decide +kernel)⟩
theorem lw_p22 : lw_okq (⟨"PartsFerry$Formula", "push", "(I)V"⟩, 7) := ⟨⟨by decide +kernel, by decide +kernel⟩, List.mem_of_getElem? (i := 237) (by decide +kernel), List.mem_of_getElem? (i := 657) (by decide +kernel), List.mem_of_getElem? (i := 658) (by decide +kernel)⟩
theorem lw_p23 : lw_okq (⟨"PartsFerry$Formula", "takeKnot", "(I)I"⟩, 7) := ⟨⟨by decide +kernel, by decide +kernel⟩, List.mem_of_getElem? (i := 237) (by decide +kernel), List.mem_of_getElem? (i := 668) (by decide +kernel), List.mem_of_getElem? (i := 669) (by decide +kernel)⟩
theorem lw_p24 : lw_okq (⟨"PartsFerry$Formula", "takeLeaf", "(I)I"⟩, 7) := ⟨⟨by decide +kernel, by decide +kernel⟩, List.mem_of_getElem? (i := 237) (by decide +kernel), List.mem_of_getElem? (i := 672) (by decide +kernel), List.mem_of_getElem? (i := 673) (by decide +kernel)⟩
theorem lw_p25 : lw_okq (⟨"PartsFerry$Formula", "write", "(I)V"⟩, 7) := ⟨⟨by decide +kernel, by decide +kernel⟩, List.mem_of_getElem? (i := 237) (by decide +kernel), List.mem_of_getElem? (i := 676) (by decide +kernel), List.mem_of_getElem? (i := 677) (by decide +kernel)⟩
theorem lw_p26 : lw_okq (⟨"PartsFerry$Formula", "takeClose", "()I"⟩, 7) := ⟨⟨by decide +kernel, by decide +kernel⟩, List.mem_of_getElem? (i := 237) (by decide +kernel), List.mem_of_getElem? (i := 680) (by decide +kernel), List.mem_of_getElem? (i := 681) (by decide +kernel)⟩
theorem lw_p27 : lw_okq (⟨"PartsFerry$Formula", "writeWaiting", "(I)V"⟩, 7) := ⟨⟨by decide +kernel, by decide +kernel⟩, List.mem_of_getElem? (i := 237) (by decide +kernel), List.mem_of_getElem? (i := 684) (by decide +kernel), List.mem_of_getElem? (i := 685) (by decide +kernel)⟩
theorem lw_p28 : lw_okq (⟨"PartsFerry$Formula", "takeOperator", "()I"⟩, 7) := ⟨⟨by decide +kernel, by decide +kernel⟩, List.mem_of_getElem? (i := 237) (by decide +kernel), List.mem_of_getElem? (i := 691) (by decide +kernel), List.mem_of_getElem? (i := 692) (by decide +kernel)⟩
theorem lw_p29 : lw_okq (⟨"PartsFerry$Formula", "operatorHere", "()I"⟩, 7) := ⟨⟨by decide +kernel, by decide +kernel⟩, List.mem_of_getElem? (i := 237) (by decide +kernel), List.mem_of_getElem? (i := 695) (by decide +kernel), List.mem_of_getElem? (i := 696) (by decide +kernel)⟩
theorem lw_p30 : lw_okq (⟨"PartsFerry$Reader", "needSign", "(I)V"⟩, 9) := ⟨⟨by decide +kernel, by decide +kernel⟩, List.mem_of_getElem? (i := 149) (by decide +kernel), List.mem_of_getElem? (i := 700) (by decide +kernel), List.mem_of_getElem? (i := 701) (by decide +kernel)⟩
theorem lw_p31 : lw_okq (⟨"PartsFerry", "isSort", "(I)Z"⟩, 16) := ⟨⟨by decide +kernel, by decide +kernel⟩, List.mem_of_getElem? (i := 26) (by decide +kernel), List.mem_of_getElem? (i := 737) (by decide +kernel), List.mem_of_getElem? (i := 738) (by decide +kernel)⟩
def lw_privs_2 : List (MethodName × Nat) := [(⟨"PartsFerry$Reader", "readStorm", "()V"⟩, 9), (⟨"PartsFerry$Reader", "readSeed", "()V"⟩, 9), (⟨"PartsFerry$Reader", "readLaw", "()V"⟩, 9), (⟨"PartsFerry$Formula", "isAtEnd", "()Z"⟩, 7), (⟨"PartsFerry$Formula", "takeOperand", "()I"⟩, 7), (⟨"PartsFerry$Formula", "takeOpen", "()I"⟩, 7), (⟨"PartsFerry$Formula", "push", "(I)V"⟩, 7), (⟨"PartsFerry$Formula", "takeKnot", "(I)I"⟩, 7), (⟨"PartsFerry$Formula", "takeLeaf", "(I)I"⟩, 7), (⟨"PartsFerry$Formula", "write", "(I)V"⟩, 7), (⟨"PartsFerry$Formula", "takeClose", "()I"⟩, 7), (⟨"PartsFerry$Formula", "writeWaiting", "(I)V"⟩, 7), (⟨"PartsFerry$Formula", "takeOperator", "()I"⟩, 7), (⟨"PartsFerry$Formula", "operatorHere", "()I"⟩, 7), (⟨"PartsFerry$Reader", "needSign", "(I)V"⟩, 9), (⟨"PartsFerry", "isSort", "(I)Z"⟩, 16)]
theorem lw_r2 : ∀ q ∈ lw_privs_2, lw_okq q := List.forall_mem_cons.mpr ⟨lw_p16, List.forall_mem_cons.mpr ⟨lw_p17, List.forall_mem_cons.mpr ⟨lw_p18, List.forall_mem_cons.mpr ⟨lw_p19, List.forall_mem_cons.mpr ⟨lw_p20, List.forall_mem_cons.mpr ⟨lw_p21, List.forall_mem_cons.mpr ⟨lw_p22, List.forall_mem_cons.mpr ⟨lw_p23, List.forall_mem_cons.mpr ⟨lw_p24, List.forall_mem_cons.mpr ⟨lw_p25, List.forall_mem_cons.mpr ⟨lw_p26, List.forall_mem_cons.mpr ⟨lw_p27, List.forall_mem_cons.mpr ⟨lw_p28, List.forall_mem_cons.mpr ⟨lw_p29, List.forall_mem_cons.mpr ⟨lw_p30, List.forall_mem_cons.mpr ⟨lw_p31, fun _ h => absurd h List.not_mem_nil⟩⟩⟩⟩⟩⟩⟩⟩⟩⟩⟩⟩⟩⟩⟩⟩
theorem lw_p32 : lw_okq (⟨"PartsFerry", "isDeed", "(I)Z"⟩, 16) := ⟨⟨by decide +kernel, by decide +kernel⟩, List.mem_of_getElem? (i := 26) (by decide +kernel), List.mem_of_getElem? (i := 745) (by decide +kernel), List.mem_of_getElem? (i := 746) (by decide +kernel)⟩
theorem lw_p33 : lw_okq (⟨"PartsFerry", "isSending", "(I)Z"⟩, 16) := ⟨⟨by decide +kernel, by decide +kernel⟩, List.mem_of_getElem? (i := 26) (by decide +kernel), List.mem_of_getElem? (i := 753) (by decide +kernel), List.mem_of_getElem? (i := 754) (by decide +kernel)⟩
theorem lw_p34 : lw_okq (⟨"PartsFerry", "isWant", "(I)Z"⟩, 16) := ⟨⟨by decide +kernel, by decide +kernel⟩, List.mem_of_getElem? (i := 26) (by decide +kernel), List.mem_of_getElem? (i := 765) (by decide +kernel), List.mem_of_getElem? (i := 766) (by decide +kernel)⟩
theorem lw_p35 : lw_okq (⟨"PartsFerry", "isPart", "(II)Z"⟩, 16) := ⟨⟨by decide +kernel, by decide +kernel⟩, List.mem_of_getElem? (i := 26) (by decide +kernel), List.mem_of_getElem? (i := 777) (by decide +kernel), List.mem_of_getElem? (i := 778) (by decide +kernel)⟩
theorem lw_p36 : lw_okq (⟨"PartsFerry", "isMan", "(I)Z"⟩, 16) := ⟨⟨by decide +kernel, by decide +kernel⟩, List.mem_of_getElem? (i := 26) (by decide +kernel), List.mem_of_getElem? (i := 781) (by decide +kernel), List.mem_of_getElem? (i := 782) (by decide +kernel)⟩
theorem lw_p37 : lw_okq (⟨"PartsFerry", "isTask", "(III)Z"⟩, 16) := ⟨⟨by decide +kernel, by decide +kernel⟩, List.mem_of_getElem? (i := 26) (by decide +kernel), List.mem_of_getElem? (i := 793) (by decide +kernel), List.mem_of_getElem? (i := 794) (by decide +kernel)⟩
theorem lw_p38 : lw_okq (⟨"PartsFerry$Days", "nameSort", "(I)V"⟩, 9) := ⟨⟨by decide +kernel, by decide +kernel⟩, List.mem_of_getElem? (i := 352) (by decide +kernel), List.mem_of_getElem? (i := 822) (by decide +kernel), List.mem_of_getElem? (i := 823) (by decide +kernel)⟩
theorem lw_p39 : lw_okq (⟨"PartsFerry$Days", "nameMan", "(I)V"⟩, 9) := ⟨⟨by decide +kernel, by decide +kernel⟩, List.mem_of_getElem? (i := 352) (by decide +kernel), List.mem_of_getElem? (i := 826) (by decide +kernel), List.mem_of_getElem? (i := 827) (by decide +kernel)⟩
theorem lw_p40 : lw_okq (⟨"PartsFerry$Days", "nameBoat", "()V"⟩, 9) := ⟨⟨by decide +kernel, by decide +kernel⟩, List.mem_of_getElem? (i := 352) (by decide +kernel), List.mem_of_getElem? (i := 830) (by decide +kernel), List.mem_of_getElem? (i := 831) (by decide +kernel)⟩
theorem lw_p41 : lw_okq (⟨"PartsFerry$Days", "aboardOf", "(I)I"⟩, 9) := ⟨⟨by decide +kernel, by decide +kernel⟩, List.mem_of_getElem? (i := 352) (by decide +kernel), List.mem_of_getElem? (i := 869) (by decide +kernel), List.mem_of_getElem? (i := 870) (by decide +kernel)⟩
theorem lw_p42 : lw_okq (⟨"PartsFerry$Days", "settleWants", "()V"⟩, 9) := ⟨⟨by decide +kernel, by decide +kernel⟩, List.mem_of_getElem? (i := 352) (by decide +kernel), List.mem_of_getElem? (i := 920) (by decide +kernel), List.mem_of_getElem? (i := 921) (by decide +kernel)⟩
theorem lw_p43 : lw_okq (⟨"PartsFerry$Days", "settle", "(I)V"⟩, 9) := ⟨⟨by decide +kernel, by decide +kernel⟩, List.mem_of_getElem? (i := 352) (by decide +kernel), List.mem_of_getElem? (i := 924) (by decide +kernel), List.mem_of_getElem? (i := 925) (by decide +kernel)⟩
theorem lw_p44 : lw_okq (⟨"PartsFerry$Days", "fillBoat", "()V"⟩, 9) := ⟨⟨by decide +kernel, by decide +kernel⟩, List.mem_of_getElem? (i := 352) (by decide +kernel), List.mem_of_getElem? (i := 942) (by decide +kernel), List.mem_of_getElem? (i := 943) (by decide +kernel)⟩
theorem lw_p45 : lw_okq (⟨"PartsFerry$Days", "boards", "(II)Z"⟩, 9) := ⟨⟨by decide +kernel, by decide +kernel⟩, List.mem_of_getElem? (i := 352) (by decide +kernel), List.mem_of_getElem? (i := 952) (by decide +kernel), List.mem_of_getElem? (i := 953) (by decide +kernel)⟩
theorem lw_p46 : lw_okq (⟨"PartsFerry$Days", "storms", "()Z"⟩, 9) := ⟨⟨by decide +kernel, by decide +kernel⟩, List.mem_of_getElem? (i := 352) (by decide +kernel), List.mem_of_getElem? (i := 958) (by decide +kernel), List.mem_of_getElem? (i := 959) (by decide +kernel)⟩
theorem lw_p47 : lw_okq (⟨"PartsFerry$Days", "nextNumber", "()I"⟩, 9) := ⟨⟨by decide +kernel, by decide +kernel⟩, List.mem_of_getElem? (i := 352) (by decide +kernel), List.mem_of_getElem? (i := 962) (by decide +kernel), List.mem_of_getElem? (i := 963) (by decide +kernel)⟩
def lw_privs_3 : List (MethodName × Nat) := [(⟨"PartsFerry", "isDeed", "(I)Z"⟩, 16), (⟨"PartsFerry", "isSending", "(I)Z"⟩, 16), (⟨"PartsFerry", "isWant", "(I)Z"⟩, 16), (⟨"PartsFerry", "isPart", "(II)Z"⟩, 16), (⟨"PartsFerry", "isMan", "(I)Z"⟩, 16), (⟨"PartsFerry", "isTask", "(III)Z"⟩, 16), (⟨"PartsFerry$Days", "nameSort", "(I)V"⟩, 9), (⟨"PartsFerry$Days", "nameMan", "(I)V"⟩, 9), (⟨"PartsFerry$Days", "nameBoat", "()V"⟩, 9), (⟨"PartsFerry$Days", "aboardOf", "(I)I"⟩, 9), (⟨"PartsFerry$Days", "settleWants", "()V"⟩, 9), (⟨"PartsFerry$Days", "settle", "(I)V"⟩, 9), (⟨"PartsFerry$Days", "fillBoat", "()V"⟩, 9), (⟨"PartsFerry$Days", "boards", "(II)Z"⟩, 9), (⟨"PartsFerry$Days", "storms", "()Z"⟩, 9), (⟨"PartsFerry$Days", "nextNumber", "()I"⟩, 9)]
theorem lw_r3 : ∀ q ∈ lw_privs_3, lw_okq q := List.forall_mem_cons.mpr ⟨lw_p32, List.forall_mem_cons.mpr ⟨lw_p33, List.forall_mem_cons.mpr ⟨lw_p34, List.forall_mem_cons.mpr ⟨lw_p35, List.forall_mem_cons.mpr ⟨lw_p36, List.forall_mem_cons.mpr ⟨lw_p37, List.forall_mem_cons.mpr ⟨lw_p38, List.forall_mem_cons.mpr ⟨lw_p39, List.forall_mem_cons.mpr ⟨lw_p40, List.forall_mem_cons.mpr ⟨lw_p41, List.forall_mem_cons.mpr ⟨lw_p42, List.forall_mem_cons.mpr ⟨lw_p43, List.forall_mem_cons.mpr ⟨lw_p44, List.forall_mem_cons.mpr ⟨lw_p45, List.forall_mem_cons.mpr ⟨lw_p46, List.forall_mem_cons.mpr ⟨lw_p47, fun _ h => absurd h List.not_mem_nil⟩⟩⟩⟩⟩⟩⟩⟩⟩⟩⟩⟩⟩⟩⟩⟩
theorem lw_p48 : lw_okq (⟨"PartsFerry$Days", "mixAll", "()V"⟩, 9) := ⟨⟨by decide +kernel, by decide +kernel⟩, List.mem_of_getElem? (i := 352) (by decide +kernel), List.mem_of_getElem? (i := 970) (by decide +kernel), List.mem_of_getElem? (i := 971) (by decide +kernel)⟩
theorem lw_p49 : lw_okq (⟨"PartsFerry$Days", "mixTwo", "(I)V"⟩, 9) := ⟨⟨by decide +kernel, by decide +kernel⟩, List.mem_of_getElem? (i := 352) (by decide +kernel), List.mem_of_getElem? (i := 975) (by decide +kernel), List.mem_of_getElem? (i := 976) (by decide +kernel)⟩
theorem lw_p50 : lw_okq (⟨"PartsFerry$Days", "land", "()V"⟩, 9) := ⟨⟨by decide +kernel, by decide +kernel⟩, List.mem_of_getElem? (i := 352) (by decide +kernel), List.mem_of_getElem? (i := 980) (by decide +kernel), List.mem_of_getElem? (i := 981) (by decide +kernel)⟩
theorem lw_p51 : lw_okq (⟨"PartsFerry", "bestLoad", "(Z)I"⟩, 16) := ⟨⟨by decide +kernel, by decide +kernel⟩, List.mem_of_getElem? (i := 26) (by decide +kernel), List.mem_of_getElem? (i := 1016) (by decide +kernel), List.mem_of_getElem? (i := 1017) (by decide +kernel)⟩
theorem lw_p52 : lw_okq (⟨"PartsFerry", "isDueBefore", "(I)Z"⟩, 16) := ⟨⟨by decide +kernel, by decide +kernel⟩, List.mem_of_getElem? (i := 26) (by decide +kernel), List.mem_of_getElem? (i := 1021) (by decide +kernel), List.mem_of_getElem? (i := 1022) (by decide +kernel)⟩
theorem lw_p53 : lw_okq (⟨"PartsFerry", "isRest", "(IIII)Z"⟩, 16) := ⟨⟨by decide +kernel, by decide +kernel⟩, List.mem_of_getElem? (i := 26) (by decide +kernel), List.mem_of_getElem? (i := 1080) (by decide +kernel), List.mem_of_getElem? (i := 1081) (by decide +kernel)⟩
theorem lw_p54 : lw_okq (⟨"PartsFerry", "meetGain", "(IIII)I"⟩, 16) := ⟨⟨by decide +kernel, by decide +kernel⟩, List.mem_of_getElem? (i := 26) (by decide +kernel), List.mem_of_getElem? (i := 1084) (by decide +kernel), List.mem_of_getElem? (i := 1085) (by decide +kernel)⟩
theorem lw_p55 : lw_okq (⟨"java/lang/Throwable", "fillInStackTrace", "(I)Ljava/lang/Throwable;"⟩, 6) := ⟨⟨by decide +kernel, by decide +kernel⟩, List.mem_of_getElem? (i := 1240) (by decide +kernel), List.mem_of_getElem? (i := 1238) (by decide +kernel), List.mem_of_getElem? (i := 1239) (by decide +kernel)⟩
theorem lw_p56 : lw_okq (⟨"PartsFerryModel", "begins", "()V"⟩, 72) := ⟨⟨by decide +kernel, by decide +kernel⟩, List.mem_of_getElem? (i := 1292) (by decide +kernel), List.mem_of_getElem? (i := 1298) (by decide +kernel), List.mem_of_getElem? (i := 1299) (by decide +kernel)⟩
theorem lw_p57 : lw_okq (⟨"PartsFerryModel", "starts", "(I)V"⟩, 72) := ⟨⟨by decide +kernel, by decide +kernel⟩, List.mem_of_getElem? (i := 1292) (by decide +kernel), List.mem_of_getElem? (i := 1302) (by decide +kernel), List.mem_of_getElem? (i := 1303) (by decide +kernel)⟩
theorem lw_p58 : lw_okq (⟨"PartsFerryModel", "reads", "(II)V"⟩, 72) := ⟨⟨by decide +kernel, by decide +kernel⟩, List.mem_of_getElem? (i := 1292) (by decide +kernel), List.mem_of_getElem? (i := 1535) (by decide +kernel), List.mem_of_getElem? (i := 1536) (by decide +kernel)⟩
theorem lw_p59 : lw_okq (⟨"PartsFerryModel", "token", "()V"⟩, 72) := ⟨⟨by decide +kernel, by decide +kernel⟩, List.mem_of_getElem? (i := 1292) (by decide +kernel), List.mem_of_getElem? (i := 1539) (by decide +kernel), List.mem_of_getElem? (i := 1540) (by decide +kernel)⟩
theorem lw_p60 : lw_okq (⟨"PartsFerryModel", "here", "()I"⟩, 72) := ⟨⟨by decide +kernel, by decide +kernel⟩, List.mem_of_getElem? (i := 1292) (by decide +kernel), List.mem_of_getElem? (i := 1543) (by decide +kernel), List.mem_of_getElem? (i := 1544) (by decide +kernel)⟩
theorem lw_p61 : lw_okq (⟨"PartsFerryModel", "word", "()I"⟩, 72) := ⟨⟨by decide +kernel, by decide +kernel⟩, List.mem_of_getElem? (i := 1292) (by decide +kernel), List.mem_of_getElem? (i := 1550) (by decide +kernel), List.mem_of_getElem? (i := 1551) (by decide +kernel)⟩
theorem lw_p62 : lw_okq (⟨"PartsFerryModel", "name", "()V"⟩, 72) := ⟨⟨by decide +kernel, by decide +kernel⟩, List.mem_of_getElem? (i := 1292) (by decide +kernel), List.mem_of_getElem? (i := 1557) (by decide +kernel), List.mem_of_getElem? (i := 1558) (by decide +kernel)⟩
theorem lw_p63 : lw_okq (⟨"PartsFerryModel", "sign", "(I)V"⟩, 72) := ⟨⟨by decide +kernel, by decide +kernel⟩, List.mem_of_getElem? (i := 1292) (by decide +kernel), List.mem_of_getElem? (i := 1565) (by decide +kernel), List.mem_of_getElem? (i := 1566) (by decide +kernel)⟩
def lw_privs_4 : List (MethodName × Nat) := [(⟨"PartsFerry$Days", "mixAll", "()V"⟩, 9), (⟨"PartsFerry$Days", "mixTwo", "(I)V"⟩, 9), (⟨"PartsFerry$Days", "land", "()V"⟩, 9), (⟨"PartsFerry", "bestLoad", "(Z)I"⟩, 16), (⟨"PartsFerry", "isDueBefore", "(I)Z"⟩, 16), (⟨"PartsFerry", "isRest", "(IIII)Z"⟩, 16), (⟨"PartsFerry", "meetGain", "(IIII)I"⟩, 16), (⟨"java/lang/Throwable", "fillInStackTrace", "(I)Ljava/lang/Throwable;"⟩, 6), (⟨"PartsFerryModel", "begins", "()V"⟩, 72), (⟨"PartsFerryModel", "starts", "(I)V"⟩, 72), (⟨"PartsFerryModel", "reads", "(II)V"⟩, 72), (⟨"PartsFerryModel", "token", "()V"⟩, 72), (⟨"PartsFerryModel", "here", "()I"⟩, 72), (⟨"PartsFerryModel", "word", "()I"⟩, 72), (⟨"PartsFerryModel", "name", "()V"⟩, 72), (⟨"PartsFerryModel", "sign", "(I)V"⟩, 72)]
theorem lw_r4 : ∀ q ∈ lw_privs_4, lw_okq q := List.forall_mem_cons.mpr ⟨lw_p48, List.forall_mem_cons.mpr ⟨lw_p49, List.forall_mem_cons.mpr ⟨lw_p50, List.forall_mem_cons.mpr ⟨lw_p51, List.forall_mem_cons.mpr ⟨lw_p52, List.forall_mem_cons.mpr ⟨lw_p53, List.forall_mem_cons.mpr ⟨lw_p54, List.forall_mem_cons.mpr ⟨lw_p55, List.forall_mem_cons.mpr ⟨lw_p56, List.forall_mem_cons.mpr ⟨lw_p57, List.forall_mem_cons.mpr ⟨lw_p58, List.forall_mem_cons.mpr ⟨lw_p59, List.forall_mem_cons.mpr ⟨lw_p60, List.forall_mem_cons.mpr ⟨lw_p61, List.forall_mem_cons.mpr ⟨lw_p62, List.forall_mem_cons.mpr ⟨lw_p63, fun _ h => absurd h List.not_mem_nil⟩⟩⟩⟩⟩⟩⟩⟩⟩⟩⟩⟩⟩⟩⟩⟩
theorem lw_p64 : lw_okq (⟨"PartsFerryModel", "line", "()V"⟩, 72) := ⟨⟨by decide +kernel, by decide +kernel⟩, List.mem_of_getElem? (i := 1292) (by decide +kernel), List.mem_of_getElem? (i := 1569) (by decide +kernel), List.mem_of_getElem? (i := 1570) (by decide +kernel)⟩
theorem lw_p65 : lw_okq (⟨"PartsFerryModel", "wrong", "(I)V"⟩, 72) := ⟨⟨by decide +kernel, by decide +kernel⟩, List.mem_of_getElem? (i := 1292) (by decide +kernel), List.mem_of_getElem? (i := 1573) (by decide +kernel), List.mem_of_getElem? (i := 1574) (by decide +kernel)⟩
theorem lw_p66 : lw_okq (⟨"PartsFerryModel", "isFull", "(I)Z"⟩, 72) := ⟨⟨by decide +kernel, by decide +kernel⟩, List.mem_of_getElem? (i := 1292) (by decide +kernel), List.mem_of_getElem? (i := 1577) (by decide +kernel), List.mem_of_getElem? (i := 1578) (by decide +kernel)⟩
theorem lw_p67 : lw_okq (⟨"PartsFerryModel", "fresher", "(I)I"⟩, 72) := ⟨⟨by decide +kernel, by decide +kernel⟩, List.mem_of_getElem? (i := 1292) (by decide +kernel), List.mem_of_getElem? (i := 1581) (by decide +kernel), List.mem_of_getElem? (i := 1582) (by decide +kernel)⟩
theorem lw_p68 : lw_okq (⟨"PartsFerryModel", "fresh", "([III)I"⟩, 72) := ⟨⟨by decide +kernel, by decide +kernel⟩, List.mem_of_getElem? (i := 1292) (by decide +kernel), List.mem_of_getElem? (i := 1585) (by decide +kernel), List.mem_of_getElem? (i := 1586) (by decide +kernel)⟩
theorem lw_p69 : lw_okq (⟨"PartsFerryModel", "numeral", "(II)I"⟩, 72) := ⟨⟨by decide +kernel, by decide +kernel⟩, List.mem_of_getElem? (i := 1292) (by decide +kernel), List.mem_of_getElem? (i := 1592) (by decide +kernel), List.mem_of_getElem? (i := 1593) (by decide +kernel)⟩
theorem lw_p70 : lw_okq (⟨"PartsFerryModel", "manAhead", "()I"⟩, 72) := ⟨⟨by decide +kernel, by decide +kernel⟩, List.mem_of_getElem? (i := 1292) (by decide +kernel), List.mem_of_getElem? (i := 1596) (by decide +kernel), List.mem_of_getElem? (i := 1597) (by decide +kernel)⟩
theorem lw_p71 : lw_okq (⟨"PartsFerryModel", "toldAhead", "([III)I"⟩, 72) := ⟨⟨by decide +kernel, by decide +kernel⟩, List.mem_of_getElem? (i := 1292) (by decide +kernel), List.mem_of_getElem? (i := 1600) (by decide +kernel), List.mem_of_getElem? (i := 1601) (by decide +kernel)⟩
theorem lw_p72 : lw_okq (⟨"PartsFerryModel", "goOn", "()V"⟩, 72) := ⟨⟨by decide +kernel, by decide +kernel⟩, List.mem_of_getElem? (i := 1292) (by decide +kernel), List.mem_of_getElem? (i := 1604) (by decide +kernel), List.mem_of_getElem? (i := 1605) (by decide +kernel)⟩
theorem lw_p73 : lw_okq (⟨"PartsFerryModel", "wantLine", "(I)V"⟩, 72) := ⟨⟨by decide +kernel, by decide +kernel⟩, List.mem_of_getElem? (i := 1292) (by decide +kernel), List.mem_of_getElem? (i := 1608) (by decide +kernel), List.mem_of_getElem? (i := 1609) (by decide +kernel)⟩
theorem lw_p74 : lw_okq (⟨"PartsFerryModel", "lawLine", "()V"⟩, 72) := ⟨⟨by decide +kernel, by decide +kernel⟩, List.mem_of_getElem? (i := 1292) (by decide +kernel), List.mem_of_getElem? (i := 1612) (by decide +kernel), List.mem_of_getElem? (i := 1613) (by decide +kernel)⟩
theorem lw_p75 : lw_okq (⟨"PartsFerryModel", "expression", "()V"⟩, 72) := ⟨⟨by decide +kernel, by decide +kernel⟩, List.mem_of_getElem? (i := 1292) (by decide +kernel), List.mem_of_getElem? (i := 1616) (by decide +kernel), List.mem_of_getElem? (i := 1617) (by decide +kernel)⟩
theorem lw_p76 : lw_okq (⟨"PartsFerryModel", "conjunction", "()V"⟩, 72) := ⟨⟨by decide +kernel, by decide +kernel⟩, List.mem_of_getElem? (i := 1292) (by decide +kernel), List.mem_of_getElem? (i := 1620) (by decide +kernel), List.mem_of_getElem? (i := 1621) (by decide +kernel)⟩
theorem lw_p77 : lw_okq (⟨"PartsFerryModel", "negation", "()V"⟩, 72) := ⟨⟨by decide +kernel, by decide +kernel⟩, List.mem_of_getElem? (i := 1292) (by decide +kernel), List.mem_of_getElem? (i := 1624) (by decide +kernel), List.mem_of_getElem? (i := 1625) (by decide +kernel)⟩
theorem lw_p78 : lw_okq (⟨"PartsFerryModel", "isWord", "(I)Z"⟩, 72) := ⟨⟨by decide +kernel, by decide +kernel⟩, List.mem_of_getElem? (i := 1292) (by decide +kernel), List.mem_of_getElem? (i := 1628) (by decide +kernel), List.mem_of_getElem? (i := 1629) (by decide +kernel)⟩
theorem lw_p79 : lw_okq (⟨"PartsFerryModel", "knot", "()V"⟩, 72) := ⟨⟨by decide +kernel, by decide +kernel⟩, List.mem_of_getElem? (i := 1292) (by decide +kernel), List.mem_of_getElem? (i := 1632) (by decide +kernel), List.mem_of_getElem? (i := 1633) (by decide +kernel)⟩
def lw_privs_5 : List (MethodName × Nat) := [(⟨"PartsFerryModel", "line", "()V"⟩, 72), (⟨"PartsFerryModel", "wrong", "(I)V"⟩, 72), (⟨"PartsFerryModel", "isFull", "(I)Z"⟩, 72), (⟨"PartsFerryModel", "fresher", "(I)I"⟩, 72), (⟨"PartsFerryModel", "fresh", "([III)I"⟩, 72), (⟨"PartsFerryModel", "numeral", "(II)I"⟩, 72), (⟨"PartsFerryModel", "manAhead", "()I"⟩, 72), (⟨"PartsFerryModel", "toldAhead", "([III)I"⟩, 72), (⟨"PartsFerryModel", "goOn", "()V"⟩, 72), (⟨"PartsFerryModel", "wantLine", "(I)V"⟩, 72), (⟨"PartsFerryModel", "lawLine", "()V"⟩, 72), (⟨"PartsFerryModel", "expression", "()V"⟩, 72), (⟨"PartsFerryModel", "conjunction", "()V"⟩, 72), (⟨"PartsFerryModel", "negation", "()V"⟩, 72), (⟨"PartsFerryModel", "isWord", "(I)Z"⟩, 72), (⟨"PartsFerryModel", "knot", "()V"⟩, 72)]
theorem lw_r5 : ∀ q ∈ lw_privs_5, lw_okq q := List.forall_mem_cons.mpr ⟨lw_p64, List.forall_mem_cons.mpr ⟨lw_p65, List.forall_mem_cons.mpr ⟨lw_p66, List.forall_mem_cons.mpr ⟨lw_p67, List.forall_mem_cons.mpr ⟨lw_p68, List.forall_mem_cons.mpr ⟨lw_p69, List.forall_mem_cons.mpr ⟨lw_p70, List.forall_mem_cons.mpr ⟨lw_p71, List.forall_mem_cons.mpr ⟨lw_p72, List.forall_mem_cons.mpr ⟨lw_p73, List.forall_mem_cons.mpr ⟨lw_p74, List.forall_mem_cons.mpr ⟨lw_p75, List.forall_mem_cons.mpr ⟨lw_p76, List.forall_mem_cons.mpr ⟨lw_p77, List.forall_mem_cons.mpr ⟨lw_p78, List.forall_mem_cons.mpr ⟨lw_p79, fun _ h => absurd h List.not_mem_nil⟩⟩⟩⟩⟩⟩⟩⟩⟩⟩⟩⟩⟩⟩⟩⟩
theorem lw_p80 : lw_okq (⟨"PartsFerryModel", "puts", "(II)V"⟩, 72) := ⟨⟨by decide +kernel, by decide +kernel⟩, List.mem_of_getElem? (i := 1292) (by decide +kernel), List.mem_of_getElem? (i := 1636) (by decide +kernel), List.mem_of_getElem? (i := 1637) (by decide +kernel)⟩
theorem lw_p81 : lw_okq (⟨"PartsFerryModel", "sum", "()V"⟩, 72) := ⟨⟨by decide +kernel, by decide +kernel⟩, List.mem_of_getElem? (i := 1292) (by decide +kernel), List.mem_of_getElem? (i := 1640) (by decide +kernel), List.mem_of_getElem? (i := 1641) (by decide +kernel)⟩
theorem lw_p82 : lw_okq (⟨"PartsFerryModel", "product", "()V"⟩, 72) := ⟨⟨by decide +kernel, by decide +kernel⟩, List.mem_of_getElem? (i := 1292) (by decide +kernel), List.mem_of_getElem? (i := 1644) (by decide +kernel), List.mem_of_getElem? (i := 1645) (by decide +kernel)⟩
theorem lw_p83 : lw_okq (⟨"PartsFerryModel", "primary", "()V"⟩, 72) := ⟨⟨by decide +kernel, by decide +kernel⟩, List.mem_of_getElem? (i := 1292) (by decide +kernel), List.mem_of_getElem? (i := 1648) (by decide +kernel), List.mem_of_getElem? (i := 1649) (by decide +kernel)⟩
theorem lw_p84 : lw_okq (⟨"PartsFerryModel", "isSign", "(I)Z"⟩, 72) := ⟨⟨by decide +kernel, by decide +kernel⟩, List.mem_of_getElem? (i := 1292) (by decide +kernel), List.mem_of_getElem? (i := 1652) (by decide +kernel), List.mem_of_getElem? (i := 1653) (by decide +kernel)⟩
theorem lw_p85 : lw_okq (⟨"PartsFerryModel", "isMan", "(I)Z"⟩, 72) := ⟨⟨by decide +kernel, by decide +kernel⟩, List.mem_of_getElem? (i := 1292) (by decide +kernel), List.mem_of_getElem? (i := 1671) (by decide +kernel), List.mem_of_getElem? (i := 1672) (by decide +kernel)⟩
theorem lw_p86 : lw_okq (⟨"PartsFerryModel", "wantsOf", "(II)I"⟩, 72) := ⟨⟨by decide +kernel, by decide +kernel⟩, List.mem_of_getElem? (i := 1292) (by decide +kernel), List.mem_of_getElem? (i := 1675) (by decide +kernel), List.mem_of_getElem? (i := 1676) (by decide +kernel)⟩
theorem lw_p87 : lw_okq (⟨"PartsFerryModel", "isSort", "(I)Z"⟩, 72) := ⟨⟨by decide +kernel, by decide +kernel⟩, List.mem_of_getElem? (i := 1292) (by decide +kernel), List.mem_of_getElem? (i := 1683) (by decide +kernel), List.mem_of_getElem? (i := 1684) (by decide +kernel)⟩
theorem lw_p88 : lw_okq (⟨"PartsFerryModel", "isDeed", "(I)Z"⟩, 72) := ⟨⟨by decide +kernel, by decide +kernel⟩, List.mem_of_getElem? (i := 1292) (by decide +kernel), List.mem_of_getElem? (i := 1691) (by decide +kernel), List.mem_of_getElem? (i := 1692) (by decide +kernel)⟩
theorem lw_p89 : lw_okq (⟨"PartsFerryModel", "isSending", "(I)Z"⟩, 72) := ⟨⟨by decide +kernel, by decide +kernel⟩, List.mem_of_getElem? (i := 1292) (by decide +kernel), List.mem_of_getElem? (i := 1699) (by decide +kernel), List.mem_of_getElem? (i := 1700) (by decide +kernel)⟩
theorem lw_p90 : lw_okq (⟨"PartsFerryModel", "areThese", "(III)Z"⟩, 72) := ⟨⟨by decide +kernel, by decide +kernel⟩, List.mem_of_getElem? (i := 1292) (by decide +kernel), List.mem_of_getElem? (i := 1719) (by decide +kernel), List.mem_of_getElem? (i := 1720) (by decide +kernel)⟩
theorem lw_p91 : lw_okq (⟨"PartsFerryModel", "canDo", "(IIII)Z"⟩, 72) := ⟨⟨by decide +kernel, by decide +kernel⟩, List.mem_of_getElem? (i := 1292) (by decide +kernel), List.mem_of_getElem? (i := 1726) (by decide +kernel), List.mem_of_getElem? (i := 1727) (by decide +kernel)⟩
theorem lw_p92 : lw_okq (⟨"PartsFerryModel", "hasLaw", "(I)Z"⟩, 72) := ⟨⟨by decide +kernel, by decide +kernel⟩, List.mem_of_getElem? (i := 1292) (by decide +kernel), List.mem_of_getElem? (i := 1734) (by decide +kernel), List.mem_of_getElem? (i := 1735) (by decide +kernel)⟩
theorem lw_p93 : lw_okq (⟨"PartsFerryModel", "awayOf", "(II)I"⟩, 72) := ⟨⟨by decide +kernel, by decide +kernel⟩, List.mem_of_getElem? (i := 1292) (by decide +kernel), List.mem_of_getElem? (i := 1739) (by decide +kernel), List.mem_of_getElem? (i := 1740) (by decide +kernel)⟩
theorem lw_p94 : lw_okq (⟨"PartsFerryModel", "calls", "(IIIII)V"⟩, 72) := ⟨⟨by decide +kernel, by decide +kernel⟩, List.mem_of_getElem? (i := 1292) (by decide +kernel), List.mem_of_getElem? (i := 1743) (by decide +kernel), List.mem_of_getElem? (i := 1744) (by decide +kernel)⟩
theorem lw_p95 : lw_okq (⟨"PartsFerryModel", "goes", "(I)Z"⟩, 72) := ⟨⟨by decide +kernel, by decide +kernel⟩, List.mem_of_getElem? (i := 1292) (by decide +kernel), List.mem_of_getElem? (i := 1750) (by decide +kernel), List.mem_of_getElem? (i := 1751) (by decide +kernel)⟩
def lw_privs_6 : List (MethodName × Nat) := [(⟨"PartsFerryModel", "puts", "(II)V"⟩, 72), (⟨"PartsFerryModel", "sum", "()V"⟩, 72), (⟨"PartsFerryModel", "product", "()V"⟩, 72), (⟨"PartsFerryModel", "primary", "()V"⟩, 72), (⟨"PartsFerryModel", "isSign", "(I)Z"⟩, 72), (⟨"PartsFerryModel", "isMan", "(I)Z"⟩, 72), (⟨"PartsFerryModel", "wantsOf", "(II)I"⟩, 72), (⟨"PartsFerryModel", "isSort", "(I)Z"⟩, 72), (⟨"PartsFerryModel", "isDeed", "(I)Z"⟩, 72), (⟨"PartsFerryModel", "isSending", "(I)Z"⟩, 72), (⟨"PartsFerryModel", "areThese", "(III)Z"⟩, 72), (⟨"PartsFerryModel", "canDo", "(IIII)Z"⟩, 72), (⟨"PartsFerryModel", "hasLaw", "(I)Z"⟩, 72), (⟨"PartsFerryModel", "awayOf", "(II)I"⟩, 72), (⟨"PartsFerryModel", "calls", "(IIIII)V"⟩, 72), (⟨"PartsFerryModel", "goes", "(I)Z"⟩, 72)]
theorem lw_r6 : ∀ q ∈ lw_privs_6, lw_okq q := List.forall_mem_cons.mpr ⟨lw_p80, List.forall_mem_cons.mpr ⟨lw_p81, List.forall_mem_cons.mpr ⟨lw_p82, List.forall_mem_cons.mpr ⟨lw_p83, List.forall_mem_cons.mpr ⟨lw_p84, List.forall_mem_cons.mpr ⟨lw_p85, List.forall_mem_cons.mpr ⟨lw_p86, List.forall_mem_cons.mpr ⟨lw_p87, List.forall_mem_cons.mpr ⟨lw_p88, List.forall_mem_cons.mpr ⟨lw_p89, List.forall_mem_cons.mpr ⟨lw_p90, List.forall_mem_cons.mpr ⟨lw_p91, List.forall_mem_cons.mpr ⟨lw_p92, List.forall_mem_cons.mpr ⟨lw_p93, List.forall_mem_cons.mpr ⟨lw_p94, List.forall_mem_cons.mpr ⟨lw_p95, fun _ h => absurd h List.not_mem_nil⟩⟩⟩⟩⟩⟩⟩⟩⟩⟩⟩⟩⟩⟩⟩⟩
theorem lw_p96 : lw_okq (⟨"PartsFerryModel", "works", "(I)Z"⟩, 72) := ⟨⟨by decide +kernel, by decide +kernel⟩, List.mem_of_getElem? (i := 1292) (by decide +kernel), List.mem_of_getElem? (i := 1754) (by decide +kernel), List.mem_of_getElem? (i := 1755) (by decide +kernel)⟩
theorem lw_p97 : lw_okq (⟨"PartsFerryModel", "keepNow", "()V"⟩, 72) := ⟨⟨by decide +kernel, by decide +kernel⟩, List.mem_of_getElem? (i := 1292) (by decide +kernel), List.mem_of_getElem? (i := 1770) (by decide +kernel), List.mem_of_getElem? (i := 1771) (by decide +kernel)⟩
theorem lw_p98 : lw_okq (⟨"PartsFerryModel", "copies", "(II)V"⟩, 72) := ⟨⟨by decide +kernel, by decide +kernel⟩, List.mem_of_getElem? (i := 1292) (by decide +kernel), List.mem_of_getElem? (i := 1774) (by decide +kernel), List.mem_of_getElem? (i := 1775) (by decide +kernel)⟩
theorem lw_p99 : lw_okq (⟨"PartsFerryModel", "passes", "(IZ)V"⟩, 72) := ⟨⟨by decide +kernel, by decide +kernel⟩, List.mem_of_getElem? (i := 1292) (by decide +kernel), List.mem_of_getElem? (i := 1794) (by decide +kernel), List.mem_of_getElem? (i := 1795) (by decide +kernel)⟩
theorem lw_p100 : lw_okq (⟨"PartsFerryModel", "wants", "(II)V"⟩, 72) := ⟨⟨by decide +kernel, by decide +kernel⟩, List.mem_of_getElem? (i := 1292) (by decide +kernel), List.mem_of_getElem? (i := 1798) (by decide +kernel), List.mem_of_getElem? (i := 1799) (by decide +kernel)⟩
theorem lw_p101 : lw_okq (⟨"PartsFerryModel", "within", "(III)I"⟩, 72) := ⟨⟨by decide +kernel, by decide +kernel⟩, List.mem_of_getElem? (i := 1292) (by decide +kernel), List.mem_of_getElem? (i := 1802) (by decide +kernel), List.mem_of_getElem? (i := 1803) (by decide +kernel)⟩
theorem lw_p102 : lw_okq (⟨"PartsFerryModel", "loads", "(I)V"⟩, 72) := ⟨⟨by decide +kernel, by decide +kernel⟩, List.mem_of_getElem? (i := 1292) (by decide +kernel), List.mem_of_getElem? (i := 1809) (by decide +kernel), List.mem_of_getElem? (i := 1810) (by decide +kernel)⟩
theorem lw_p103 : lw_okq (⟨"PartsFerryModel", "isDue", "(II)Z"⟩, 72) := ⟨⟨by decide +kernel, by decide +kernel⟩, List.mem_of_getElem? (i := 1292) (by decide +kernel), List.mem_of_getElem? (i := 1813) (by decide +kernel), List.mem_of_getElem? (i := 1814) (by decide +kernel)⟩
theorem lw_p104 : lw_okq (⟨"PartsFerryModel", "isAtBoat", "(III)Z"⟩, 72) := ⟨⟨by decide +kernel, by decide +kernel⟩, List.mem_of_getElem? (i := 1292) (by decide +kernel), List.mem_of_getElem? (i := 1817) (by decide +kernel), List.mem_of_getElem? (i := 1818) (by decide +kernel)⟩
theorem lw_p105 : lw_okq (⟨"PartsFerryModel", "fareOf", "(III)I"⟩, 72) := ⟨⟨by decide +kernel, by decide +kernel⟩, List.mem_of_getElem? (i := 1292) (by decide +kernel), List.mem_of_getElem? (i := 1821) (by decide +kernel), List.mem_of_getElem? (i := 1822) (by decide +kernel)⟩
theorem lw_p106 : lw_okq (⟨"PartsFerryModel", "doesStorm", "(IZ)Z"⟩, 72) := ⟨⟨by decide +kernel, by decide +kernel⟩, List.mem_of_getElem? (i := 1292) (by decide +kernel), List.mem_of_getElem? (i := 1825) (by decide +kernel), List.mem_of_getElem? (i := 1826) (by decide +kernel)⟩
theorem lw_p107 : lw_okq (⟨"PartsFerryModel", "mixes", "(II)V"⟩, 72) := ⟨⟨by decide +kernel, by decide +kernel⟩, List.mem_of_getElem? (i := 1292) (by decide +kernel), List.mem_of_getElem? (i := 1831) (by decide +kernel), List.mem_of_getElem? (i := 1832) (by decide +kernel)⟩
theorem lw_p108 : lw_okq (⟨"PartsFerryModel", "boardOf", "(I)I"⟩, 72) := ⟨⟨by decide +kernel, by decide +kernel⟩, List.mem_of_getElem? (i := 1292) (by decide +kernel), List.mem_of_getElem? (i := 1835) (by decide +kernel), List.mem_of_getElem? (i := 1836) (by decide +kernel)⟩
theorem lw_p109 : lw_okq (⟨"PartsFerryModel", "runs", "(I)V"⟩, 72) := ⟨⟨by decide +kernel, by decide +kernel⟩, List.mem_of_getElem? (i := 1292) (by decide +kernel), List.mem_of_getElem? (i := 1843) (by decide +kernel), List.mem_of_getElem? (i := 1844) (by decide +kernel)⟩
theorem lw_p110 : lw_okq (⟨"PartsFerryModel", "goesOn", "(I)V"⟩, 72) := ⟨⟨by decide +kernel, by decide +kernel⟩, List.mem_of_getElem? (i := 1292) (by decide +kernel), List.mem_of_getElem? (i := 1847) (by decide +kernel), List.mem_of_getElem? (i := 1848) (by decide +kernel)⟩
theorem lw_p111 : lw_okq (⟨"PartsFerryModel", "outcomes", "(II)I"⟩, 72) := ⟨⟨by decide +kernel, by decide +kernel⟩, List.mem_of_getElem? (i := 1292) (by decide +kernel), List.mem_of_getElem? (i := 1851) (by decide +kernel), List.mem_of_getElem? (i := 1852) (by decide +kernel)⟩
def lw_privs_7 : List (MethodName × Nat) := [(⟨"PartsFerryModel", "works", "(I)Z"⟩, 72), (⟨"PartsFerryModel", "keepNow", "()V"⟩, 72), (⟨"PartsFerryModel", "copies", "(II)V"⟩, 72), (⟨"PartsFerryModel", "passes", "(IZ)V"⟩, 72), (⟨"PartsFerryModel", "wants", "(II)V"⟩, 72), (⟨"PartsFerryModel", "within", "(III)I"⟩, 72), (⟨"PartsFerryModel", "loads", "(I)V"⟩, 72), (⟨"PartsFerryModel", "isDue", "(II)Z"⟩, 72), (⟨"PartsFerryModel", "isAtBoat", "(III)Z"⟩, 72), (⟨"PartsFerryModel", "fareOf", "(III)I"⟩, 72), (⟨"PartsFerryModel", "doesStorm", "(IZ)Z"⟩, 72), (⟨"PartsFerryModel", "mixes", "(II)V"⟩, 72), (⟨"PartsFerryModel", "boardOf", "(I)I"⟩, 72), (⟨"PartsFerryModel", "runs", "(I)V"⟩, 72), (⟨"PartsFerryModel", "goesOn", "(I)V"⟩, 72), (⟨"PartsFerryModel", "outcomes", "(II)I"⟩, 72)]
theorem lw_r7 : ∀ q ∈ lw_privs_7, lw_okq q := List.forall_mem_cons.mpr ⟨lw_p96, List.forall_mem_cons.mpr ⟨lw_p97, List.forall_mem_cons.mpr ⟨lw_p98, List.forall_mem_cons.mpr ⟨lw_p99, List.forall_mem_cons.mpr ⟨lw_p100, List.forall_mem_cons.mpr ⟨lw_p101, List.forall_mem_cons.mpr ⟨lw_p102, List.forall_mem_cons.mpr ⟨lw_p103, List.forall_mem_cons.mpr ⟨lw_p104, List.forall_mem_cons.mpr ⟨lw_p105, List.forall_mem_cons.mpr ⟨lw_p106, List.forall_mem_cons.mpr ⟨lw_p107, List.forall_mem_cons.mpr ⟨lw_p108, List.forall_mem_cons.mpr ⟨lw_p109, List.forall_mem_cons.mpr ⟨lw_p110, List.forall_mem_cons.mpr ⟨lw_p111, fun _ h => absurd h List.not_mem_nil⟩⟩⟩⟩⟩⟩⟩⟩⟩⟩⟩⟩⟩⟩⟩⟩
theorem lw_p112 : lw_okq (⟨"PartsFerryModel", "goneMany", "(I)I"⟩, 72) := ⟨⟨by decide +kernel, by decide +kernel⟩, List.mem_of_getElem? (i := 1292) (by decide +kernel), List.mem_of_getElem? (i := 1855) (by decide +kernel), List.mem_of_getElem? (i := 1856) (by decide +kernel)⟩
theorem lw_p113 : lw_okq (⟨"PartsFerryModel", "mixedMany", "(I)I"⟩, 72) := ⟨⟨by decide +kernel, by decide +kernel⟩, List.mem_of_getElem? (i := 1292) (by decide +kernel), List.mem_of_getElem? (i := 1859) (by decide +kernel), List.mem_of_getElem? (i := 1860) (by decide +kernel)⟩
theorem lw_p114 : lw_okq (⟨"PartsFerryModel", "layLoad", "()V"⟩, 72) := ⟨⟨by decide +kernel, by decide +kernel⟩, List.mem_of_getElem? (i := 1292) (by decide +kernel), List.mem_of_getElem? (i := 1871) (by decide +kernel), List.mem_of_getElem? (i := 1872) (by decide +kernel)⟩
theorem lw_p115 : lw_okq (⟨"PartsFerryModel", "rows", "(II)V"⟩, 72) := ⟨⟨by decide +kernel, by decide +kernel⟩, List.mem_of_getElem? (i := 1292) (by decide +kernel), List.mem_of_getElem? (i := 1880) (by decide +kernel), List.mem_of_getElem? (i := 1881) (by decide +kernel)⟩
theorem lw_p116 : lw_okq (⟨"PartsFerryModel", "penceAll", "(I)I"⟩, 72) := ⟨⟨by decide +kernel, by decide +kernel⟩, List.mem_of_getElem? (i := 1292) (by decide +kernel), List.mem_of_getElem? (i := 1884) (by decide +kernel), List.mem_of_getElem? (i := 1885) (by decide +kernel)⟩
theorem lw_p117 : lw_okq (⟨"PartsFerryModel", "needsOf", "(III)I"⟩, 72) := ⟨⟨by decide +kernel, by decide +kernel⟩, List.mem_of_getElem? (i := 1292) (by decide +kernel), List.mem_of_getElem? (i := 1900) (by decide +kernel), List.mem_of_getElem? (i := 1901) (by decide +kernel)⟩
theorem lw_p118 : lw_okq (⟨"PartsFerryModel", "areTwo", "(III)Z"⟩, 72) := ⟨⟨by decide +kernel, by decide +kernel⟩, List.mem_of_getElem? (i := 1292) (by decide +kernel), List.mem_of_getElem? (i := 1912) (by decide +kernel), List.mem_of_getElem? (i := 1913) (by decide +kernel)⟩
theorem lw_p119 : lw_okq (⟨"PartsFerryModel", "restOf", "(IIII)I"⟩, 72) := ⟨⟨by decide +kernel, by decide +kernel⟩, List.mem_of_getElem? (i := 1292) (by decide +kernel), List.mem_of_getElem? (i := 1916) (by decide +kernel), List.mem_of_getElem? (i := 1917) (by decide +kernel)⟩
theorem lw_p120 : lw_okq (⟨"PartsFerryModel", "isRest", "(IIII)Z"⟩, 72) := ⟨⟨by decide +kernel, by decide +kernel⟩, List.mem_of_getElem? (i := 1292) (by decide +kernel), List.mem_of_getElem? (i := 1920) (by decide +kernel), List.mem_of_getElem? (i := 1921) (by decide +kernel)⟩
theorem lw_p121 : lw_okq (⟨"PartsFerryModel", "hasOf", "(IIII)I"⟩, 72) := ⟨⟨by decide +kernel, by decide +kernel⟩, List.mem_of_getElem? (i := 1292) (by decide +kernel), List.mem_of_getElem? (i := 1924) (by decide +kernel), List.mem_of_getElem? (i := 1925) (by decide +kernel)⟩
theorem lw_p122 : lw_okq (⟨"PartsFerryModel", "holderOf", "(II)I"⟩, 72) := ⟨⟨by decide +kernel, by decide +kernel⟩, List.mem_of_getElem? (i := 1292) (by decide +kernel), List.mem_of_getElem? (i := 1945) (by decide +kernel), List.mem_of_getElem? (i := 1946) (by decide +kernel)⟩
theorem lw_p123 : lw_okq (⟨"PartsFerryModel", "isLost", "(I)Z"⟩, 72) := ⟨⟨by decide +kernel, by decide +kernel⟩, List.mem_of_getElem? (i := 1292) (by decide +kernel), List.mem_of_getElem? (i := 1953) (by decide +kernel), List.mem_of_getElem? (i := 1954) (by decide +kernel)⟩
theorem lw_p124 : lw_okq (⟨"PartsFerryModel", "knownMany", "()I"⟩, 72) := ⟨⟨by decide +kernel, by decide +kernel⟩, List.mem_of_getElem? (i := 1292) (by decide +kernel), List.mem_of_getElem? (i := 1973) (by decide +kernel), List.mem_of_getElem? (i := 1974) (by decide +kernel)⟩
theorem lw_p125 : lw_okq (⟨"PartsFerryModel", "fitsRoom", "(I)Z"⟩, 72) := ⟨⟨by decide +kernel, by decide +kernel⟩, List.mem_of_getElem? (i := 1292) (by decide +kernel), List.mem_of_getElem? (i := 1978) (by decide +kernel), List.mem_of_getElem? (i := 1979) (by decide +kernel)⟩
theorem lw_p126 : lw_okq (⟨"PartsFerryModel", "isSo", "(I)Z"⟩, 72) := ⟨⟨by decide +kernel, by decide +kernel⟩, List.mem_of_getElem? (i := 1292) (by decide +kernel), List.mem_of_getElem? (i := 1982) (by decide +kernel), List.mem_of_getElem? (i := 1983) (by decide +kernel)⟩
theorem lw_p127 : lw_okq (⟨"PartsFerryModel", "ownsAgain", "(I)V"⟩, 72) := ⟨⟨by decide +kernel, by decide +kernel⟩, List.mem_of_getElem? (i := 1292) (by decide +kernel), List.mem_of_getElem? (i := 1994) (by decide +kernel), List.mem_of_getElem? (i := 1995) (by decide +kernel)⟩
def lw_privs_8 : List (MethodName × Nat) := [(⟨"PartsFerryModel", "goneMany", "(I)I"⟩, 72), (⟨"PartsFerryModel", "mixedMany", "(I)I"⟩, 72), (⟨"PartsFerryModel", "layLoad", "()V"⟩, 72), (⟨"PartsFerryModel", "rows", "(II)V"⟩, 72), (⟨"PartsFerryModel", "penceAll", "(I)I"⟩, 72), (⟨"PartsFerryModel", "needsOf", "(III)I"⟩, 72), (⟨"PartsFerryModel", "areTwo", "(III)Z"⟩, 72), (⟨"PartsFerryModel", "restOf", "(IIII)I"⟩, 72), (⟨"PartsFerryModel", "isRest", "(IIII)Z"⟩, 72), (⟨"PartsFerryModel", "hasOf", "(IIII)I"⟩, 72), (⟨"PartsFerryModel", "holderOf", "(II)I"⟩, 72), (⟨"PartsFerryModel", "isLost", "(I)Z"⟩, 72), (⟨"PartsFerryModel", "knownMany", "()I"⟩, 72), (⟨"PartsFerryModel", "fitsRoom", "(I)Z"⟩, 72), (⟨"PartsFerryModel", "isSo", "(I)Z"⟩, 72), (⟨"PartsFerryModel", "ownsAgain", "(I)V"⟩, 72)]
theorem lw_r8 : ∀ q ∈ lw_privs_8, lw_okq q := List.forall_mem_cons.mpr ⟨lw_p112, List.forall_mem_cons.mpr ⟨lw_p113, List.forall_mem_cons.mpr ⟨lw_p114, List.forall_mem_cons.mpr ⟨lw_p115, List.forall_mem_cons.mpr ⟨lw_p116, List.forall_mem_cons.mpr ⟨lw_p117, List.forall_mem_cons.mpr ⟨lw_p118, List.forall_mem_cons.mpr ⟨lw_p119, List.forall_mem_cons.mpr ⟨lw_p120, List.forall_mem_cons.mpr ⟨lw_p121, List.forall_mem_cons.mpr ⟨lw_p122, List.forall_mem_cons.mpr ⟨lw_p123, List.forall_mem_cons.mpr ⟨lw_p124, List.forall_mem_cons.mpr ⟨lw_p125, List.forall_mem_cons.mpr ⟨lw_p126, List.forall_mem_cons.mpr ⟨lw_p127, fun _ h => absurd h List.not_mem_nil⟩⟩⟩⟩⟩⟩⟩⟩⟩⟩⟩⟩⟩⟩⟩⟩
def lw_privs : List (MethodName × Nat) := lw_privs_1 ++ (lw_privs_2 ++ (lw_privs_3 ++ (lw_privs_4 ++ (lw_privs_5 ++ (lw_privs_6 ++ (lw_privs_7 ++ (lw_privs_8)))))))
def lw_tbl : List Cond := k2_sels lw_privs ++ tables_1
theorem lw_privs_ok : ∀ q ∈ lw_privs, lw_okq q := by
  show ∀ q ∈ lw_privs_1 ++ (lw_privs_2 ++ (lw_privs_3 ++ (lw_privs_4 ++ (lw_privs_5 ++ (lw_privs_6 ++ (lw_privs_7 ++ (lw_privs_8))))))), lw_okq q
  exact List.forall_mem_append.mpr ⟨lw_r1, List.forall_mem_append.mpr ⟨lw_r2, List.forall_mem_append.mpr ⟨lw_r3, List.forall_mem_append.mpr ⟨lw_r4, List.forall_mem_append.mpr ⟨lw_r5, List.forall_mem_append.mpr ⟨lw_r6, List.forall_mem_append.mpr ⟨lw_r7, lw_r8⟩⟩⟩⟩⟩⟩⟩
-- printed names (claim/NAMES.whole.lean.txt)
def RX0 : String := "PartsFerry$Days"
def TX0 : u_T := fun k => match k with
  | 0 => ("PartsFerry$Days", "room", "I", false)
  | 1 => ("PartsFerry$Days", "isFree", "Z", false)
  | 2 => ("PartsFerry$Days", "silent", "I", false)
  | 3 => ("PartsFerry$Days", "at", "LPartsFerry$State;", false)
  | 4 => ("PartsFerry$Days", "told", "LPartsFerry$Told;", false)
  | 5 => ("PartsFerry$Days", "weather", "I", false)
  | 6 => ("PartsFerry$Days", "isAboard", "[Z", true)
  | 7 => ("PartsFerry$Days", "aboard", "I", false)
  | _ => ("PartsFerry$Days", "names", "[J", true)
def tyX0 : Nat → FieldType := fun k => match k with
  | 0 => .int
  | 1 => .boolean
  | 2 => .int
  | 3 => .object "PartsFerry$State"
  | 4 => .object "PartsFerry$Told"
  | 5 => .int
  | 6 => .array .boolean
  | 7 => .int
  | _ => .array .long
abbrev wsX00 : List Cond := u_ws RX0 TX0 9
theorem nmX0 : ∀ a, a < 9 → ∀ b, b < 9 → a ≠ b → (TX0 a).2.1 ≠ (TX0 b).2.1 := by decide +kernel
theorem tyX0_ok : ∀ k, k < 9 → parseFieldDescriptor (TX0 k).2.2.1 = some (tyX0 k) := by decide +kernel
abbrev cX0_init : ByteArray := prog_2_method_1_code
def yX0_init : MethodName := ⟨RX0, "<init>", "(LPartsFerry$State;)V"⟩
abbrev cX0_start : ByteArray := prog_2_method_2_code
def yX0_start : MethodName := ⟨RX0, "start", "(LPartsFerry$State;I)V"⟩
abbrev cX0_pass : ByteArray := prog_2_method_3_code
def yX0_pass : MethodName := ⟨RX0, "pass", "(I)V"⟩
abbrev cX0_settleWants : ByteArray := prog_2_method_4_code
def yX0_settleWants : MethodName := ⟨RX0, "settleWants", "()V"⟩
abbrev cX0_settle : ByteArray := prog_2_method_5_code
def yX0_settle : MethodName := ⟨RX0, "settle", "(I)V"⟩
abbrev cX0_fillBoat : ByteArray := prog_2_method_6_code
def yX0_fillBoat : MethodName := ⟨RX0, "fillBoat", "()V"⟩
abbrev cX0_boards : ByteArray := prog_2_method_7_code
def yX0_boards : MethodName := ⟨RX0, "boards", "(II)Z"⟩
abbrev cX0_storms : ByteArray := prog_2_method_8_code
def yX0_storms : MethodName := ⟨RX0, "storms", "()Z"⟩
abbrev cX0_nextNumber : ByteArray := prog_2_method_9_code
def yX0_nextNumber : MethodName := ⟨RX0, "nextNumber", "()I"⟩
abbrev cX0_mixAll : ByteArray := prog_2_method_10_code
def yX0_mixAll : MethodName := ⟨RX0, "mixAll", "()V"⟩
abbrev cX0_mixTwo : ByteArray := prog_2_method_11_code
def yX0_mixTwo : MethodName := ⟨RX0, "mixTwo", "(I)V"⟩
abbrev cX0_land : ByteArray := prog_2_method_12_code
def yX0_land : MethodName := ⟨RX0, "land", "()V"⟩
abbrev cX0_fareLaw : ByteArray := prog_2_method_13_code
def yX0_fareLaw : MethodName := ⟨RX0, "fareLaw", "(II)J"⟩
abbrev cX0_gainLaw : ByteArray := prog_2_method_14_code
def yX0_gainLaw : MethodName := ⟨RX0, "gainLaw", "(II)J"⟩
abbrev cX0_mixLaw : ByteArray := prog_2_method_15_code
def yX0_mixLaw : MethodName := ⟨RX0, "mixLaw", "(I)J"⟩
abbrev cX0_nameSort : ByteArray := prog_2_method_16_code
def yX0_nameSort : MethodName := ⟨RX0, "nameSort", "(I)V"⟩
abbrev cX0_nameMan : ByteArray := prog_2_method_17_code
def yX0_nameMan : MethodName := ⟨RX0, "nameMan", "(I)V"⟩
abbrev cX0_nameBoat : ByteArray := prog_2_method_18_code
def yX0_nameBoat : MethodName := ⟨RX0, "nameBoat", "()V"⟩
abbrev cX0_aboardOf : ByteArray := prog_2_method_19_code
def yX0_aboardOf : MethodName := ⟨RX0, "aboardOf", "(I)I"⟩
abbrev cX0_within : ByteArray := prog_2_method_20_code
def yX0_within : MethodName := ⟨RX0, "within", "(JI)I"⟩
def RX1 : String := "PartsFerry$Formula"
def TX1 : u_T := fun k => match k with
  | 0 => ("PartsFerry$Formula", "waiting", "[I", true)
  | 1 => ("PartsFerry$Formula", "waits", "I", false)
  | 2 => ("PartsFerry$Formula", "open", "I", false)
  | 3 => ("PartsFerry$Formula", "written", "I", false)
  | 4 => ("PartsFerry$Formula", "isOperandDue", "Z", false)
  | 5 => ("PartsFerry$Formula", "tokens", "LPartsFerry$Tokens;", true)
  | _ => ("PartsFerry$Formula", "laws", "LPartsFerry$Laws;", false)
def tyX1 : Nat → FieldType := fun k => match k with
  | 0 => .array .int
  | 1 => .int
  | 2 => .int
  | 3 => .int
  | 4 => .boolean
  | 5 => .object "PartsFerry$Tokens"
  | _ => .object "PartsFerry$Laws"
abbrev wsX10 : List Cond := u_ws RX1 TX1 7
theorem nmX1 : ∀ a, a < 7 → ∀ b, b < 7 → a ≠ b → (TX1 a).2.1 ≠ (TX1 b).2.1 := by decide +kernel
theorem tyX1_ok : ∀ k, k < 7 → parseFieldDescriptor (TX1 k).2.2.1 = some (tyX1 k) := by decide +kernel
abbrev cX1_init : ByteArray := prog_3_method_1_code
def yX1_init : MethodName := ⟨RX1, "<init>", "(LPartsFerry$Tokens;LPartsFerry$Laws;)V"⟩
abbrev cX1_reads : ByteArray := prog_3_method_2_code
def yX1_reads : MethodName := ⟨RX1, "reads", "(LPartsFerry$Laws;I)I"⟩
abbrev cX1_isAtEnd : ByteArray := prog_3_method_3_code
def yX1_isAtEnd : MethodName := ⟨RX1, "isAtEnd", "()Z"⟩
abbrev cX1_takeOperand : ByteArray := prog_3_method_4_code
def yX1_takeOperand : MethodName := ⟨RX1, "takeOperand", "()I"⟩
abbrev cX1_takeOpen : ByteArray := prog_3_method_5_code
def yX1_takeOpen : MethodName := ⟨RX1, "takeOpen", "()I"⟩
abbrev cX1_takeOperator : ByteArray := prog_3_method_6_code
def yX1_takeOperator : MethodName := ⟨RX1, "takeOperator", "()I"⟩
abbrev cX1_takeClose : ByteArray := prog_3_method_7_code
def yX1_takeClose : MethodName := ⟨RX1, "takeClose", "()I"⟩
abbrev cX1_operatorHere : ByteArray := prog_3_method_8_code
def yX1_operatorHere : MethodName := ⟨RX1, "operatorHere", "()I"⟩
abbrev cX1_takeKnot : ByteArray := prog_3_method_9_code
def yX1_takeKnot : MethodName := ⟨RX1, "takeKnot", "(I)I"⟩
abbrev cX1_takeLeaf : ByteArray := prog_3_method_10_code
def yX1_takeLeaf : MethodName := ⟨RX1, "takeLeaf", "(I)I"⟩
abbrev cX1_push : ByteArray := prog_3_method_11_code
def yX1_push : MethodName := ⟨RX1, "push", "(I)V"⟩
abbrev cX1_writeWaiting : ByteArray := prog_3_method_12_code
def yX1_writeWaiting : MethodName := ⟨RX1, "writeWaiting", "(I)V"⟩
abbrev cX1_write : ByteArray := prog_3_method_13_code
def yX1_write : MethodName := ⟨RX1, "write", "(I)V"⟩
abbrev cX1_rankOf : ByteArray := prog_3_method_14_code
def yX1_rankOf : MethodName := ⟨RX1, "rankOf", "(I)I"⟩
def RX2 : String := "PartsFerry$Laws"
def TX2 : u_T := fun k => match k with
  | 0 => ("PartsFerry$Laws", "code", "[I", true)
  | 1 => ("PartsFerry$Laws", "begins", "[I", true)
  | 2 => ("PartsFerry$Laws", "ends", "[I", true)
  | 3 => ("PartsFerry$Laws", "knots", "I", false)
  | _ => ("PartsFerry$Laws", "stack", "[J", true)
def tyX2 : Nat → FieldType := fun k => match k with
  | 0 => .array .int
  | 1 => .array .int
  | 2 => .array .int
  | 3 => .int
  | _ => .array .long
abbrev wsX20 : List Cond := u_ws RX2 TX2 5
theorem nmX2 : ∀ a, a < 5 → ∀ b, b < 5 → a ≠ b → (TX2 a).2.1 ≠ (TX2 b).2.1 := by decide +kernel
theorem tyX2_ok : ∀ k, k < 5 → parseFieldDescriptor (TX2 k).2.2.1 = some (tyX2 k) := by decide +kernel
abbrev cX2_init : ByteArray := prog_4_method_1_code
def yX2_init : MethodName := ⟨RX2, "<init>", "()V"⟩
abbrev cX2_clear : ByteArray := prog_4_method_2_code
def yX2_clear : MethodName := ⟨RX2, "clear", "()V"⟩
abbrev cX2_isTold : ByteArray := prog_4_method_3_code
def yX2_isTold : MethodName := ⟨RX2, "isTold", "(I)Z"⟩
abbrev cX2_value : ByteArray := prog_4_method_4_code
def yX2_value : MethodName := ⟨RX2, "value", "(I[J)J"⟩
abbrev cX2_worked : ByteArray := prog_4_method_5_code
def yX2_worked : MethodName := ⟨RX2, "worked", "(IJJ)J"⟩
abbrev cX2_product : ByteArray := prog_4_method_6_code
def yX2_product : MethodName := ⟨RX2, "product", "(JJ)J"⟩
abbrev cX2_isSo : ByteArray := prog_4_method_7_code
def yX2_isSo : MethodName := ⟨RX2, "isSo", "(IJJ)Z"⟩
def RX3 : String := "PartsFerry$Log"
def TX3 : u_T := fun k => match k with
  | 0 => ("PartsFerry$Log", "size", "I", false)
  | _ => ("PartsFerry$Log", "rows", "[I", true)
def tyX3 : Nat → FieldType := fun k => match k with
  | 0 => .int
  | _ => .array .int
abbrev wsX30 : List Cond := u_ws RX3 TX3 2
theorem nmX3 : ∀ a, a < 2 → ∀ b, b < 2 → a ≠ b → (TX3 a).2.1 ≠ (TX3 b).2.1 := by decide +kernel
theorem tyX3_ok : ∀ k, k < 2 → parseFieldDescriptor (TX3 k).2.2.1 = some (tyX3 k) := by decide +kernel
abbrev cX3_init : ByteArray := prog_5_method_1_code
def yX3_init : MethodName := ⟨RX3, "<init>", "()V"⟩
abbrev cX3_clear : ByteArray := prog_5_method_2_code
def yX3_clear : MethodName := ⟨RX3, "clear", "()V"⟩
abbrev cX3_note : ByteArray := prog_5_method_3_code
def yX3_note : MethodName := ⟨RX3, "note", "(IIII)V"⟩
abbrev cX3_at : ByteArray := prog_5_method_4_code
def yX3_at : MethodName := ⟨RX3, "at", "(II)I"⟩
def RX4 : String := "PartsFerry$Order"
def TX4 : u_T := fun k => match k with
  | 0 => ("PartsFerry$Order", "chosen", "I", false)
  | 1 => ("PartsFerry$Order", "most", "I", false)
  | 2 => ("PartsFerry$Order", "best", "[I", true)
  | 3 => ("PartsFerry$Order", "isAnyWeighed", "Z", false)
  | _ => ("PartsFerry$Order", "choice", "[I", true)
def tyX4 : Nat → FieldType := fun k => match k with
  | 0 => .int
  | 1 => .int
  | 2 => .array .int
  | 3 => .boolean
  | _ => .array .int
abbrev wsX40 : List Cond := u_ws RX4 TX4 5
theorem nmX4 : ∀ a, a < 5 → ∀ b, b < 5 → a ≠ b → (TX4 a).2.1 ≠ (TX4 b).2.1 := by decide +kernel
theorem tyX4_ok : ∀ k, k < 5 → parseFieldDescriptor (TX4 k).2.2.1 = some (tyX4 k) := by decide +kernel
abbrev cX4_init : ByteArray := prog_6_method_1_code
def yX4_init : MethodName := ⟨RX4, "<init>", "()V"⟩
abbrev cX4_choose : ByteArray := prog_6_method_2_code
def yX4_choose : MethodName := ⟨RX4, "choose", "(LPartsFerry$State;)V"⟩
abbrev cX4_digit : ByteArray := prog_6_method_3_code
def yX4_digit : MethodName := ⟨RX4, "digit", "(II)I"⟩
abbrev cX4_isRow : ByteArray := prog_6_method_4_code
def yX4_isRow : MethodName := ⟨RX4, "isRow", "(I)Z"⟩
abbrev cX4_layOut : ByteArray := prog_6_method_5_code
def yX4_layOut : MethodName := ⟨RX4, "layOut", "(ILPartsFerry$State;)V"⟩
abbrev cX4_weigh : ByteArray := prog_6_method_6_code
def yX4_weigh : MethodName := ⟨RX4, "weigh", "(II)V"⟩
def RX5 : String := "PartsFerry$Reader"
def TX5 : u_T := fun k => match k with
  | 0 => ("PartsFerry$Reader", "fault", "I", false)
  | 1 => ("PartsFerry$Reader", "place", "I", false)
  | 2 => ("PartsFerry$Reader", "lines", "I", false)
  | 3 => ("PartsFerry$Reader", "tokens", "LPartsFerry$Tokens;", true)
  | 4 => ("PartsFerry$Reader", "formula", "LPartsFerry$Formula;", true)
  | 5 => ("PartsFerry$Reader", "told", "LPartsFerry$Told;", false)
  | 6 => ("PartsFerry$Reader", "isRoomTold", "Z", false)
  | 7 => ("PartsFerry$Reader", "isStormTold", "Z", false)
  | _ => ("PartsFerry$Reader", "isSeedTold", "Z", false)
def tyX5 : Nat → FieldType := fun k => match k with
  | 0 => .int
  | 1 => .int
  | 2 => .int
  | 3 => .object "PartsFerry$Tokens"
  | 4 => .object "PartsFerry$Formula"
  | 5 => .object "PartsFerry$Told"
  | 6 => .boolean
  | 7 => .boolean
  | _ => .boolean
abbrev wsX50 : List Cond := u_ws RX5 TX5 9
theorem nmX5 : ∀ a, a < 9 → ∀ b, b < 9 → a ≠ b → (TX5 a).2.1 ≠ (TX5 b).2.1 := by decide +kernel
theorem tyX5_ok : ∀ k, k < 9 → parseFieldDescriptor (TX5 k).2.2.1 = some (tyX5 k) := by decide +kernel
abbrev cX5_init : ByteArray := prog_7_method_1_code
def yX5_init : MethodName := ⟨RX5, "<init>", "([BLPartsFerry$Told;)V"⟩
abbrev cX5_reads : ByteArray := prog_7_method_2_code
def yX5_reads : MethodName := ⟨RX5, "reads", "(ILPartsFerry$Told;)Z"⟩
abbrev cX5_fail : ByteArray := prog_7_method_3_code
def yX5_fail : MethodName := ⟨RX5, "fail", "(I)V"⟩
abbrev cX5_failIf : ByteArray := prog_7_method_4_code
def yX5_failIf : MethodName := ⟨RX5, "failIf", "(ZI)V"⟩
abbrev cX5_needSign : ByteArray := prog_7_method_5_code
def yX5_needSign : MethodName := ⟨RX5, "needSign", "(I)V"⟩
abbrev cX5_readLine : ByteArray := prog_7_method_6_code
def yX5_readLine : MethodName := ⟨RX5, "readLine", "()V"⟩
abbrev cX5_readMan : ByteArray := prog_7_method_7_code
def yX5_readMan : MethodName := ⟨RX5, "readMan", "()V"⟩
abbrev cX5_readSort : ByteArray := prog_7_method_8_code
def yX5_readSort : MethodName := ⟨RX5, "readSort", "()V"⟩
abbrev cX5_readDeed : ByteArray := prog_7_method_9_code
def yX5_readDeed : MethodName := ⟨RX5, "readDeed", "()V"⟩
abbrev cX5_readSend : ByteArray := prog_7_method_10_code
def yX5_readSend : MethodName := ⟨RX5, "readSend", "()V"⟩
abbrev cX5_readWant : ByteArray := prog_7_method_11_code
def yX5_readWant : MethodName := ⟨RX5, "readWant", "()V"⟩
abbrev cX5_readRoom : ByteArray := prog_7_method_12_code
def yX5_readRoom : MethodName := ⟨RX5, "readRoom", "()V"⟩
abbrev cX5_readStorm : ByteArray := prog_7_method_13_code
def yX5_readStorm : MethodName := ⟨RX5, "readStorm", "()V"⟩
abbrev cX5_readSeed : ByteArray := prog_7_method_14_code
def yX5_readSeed : MethodName := ⟨RX5, "readSeed", "()V"⟩
abbrev cX5_readLaw : ByteArray := prog_7_method_15_code
def yX5_readLaw : MethodName := ⟨RX5, "readLaw", "()V"⟩
abbrev cX5_newOne : ByteArray := prog_7_method_16_code
def yX5_newOne : MethodName := ⟨RX5, "newOne", "(II)I"⟩
abbrev cX5_oldOne : ByteArray := prog_7_method_17_code
def yX5_oldOne : MethodName := ⟨RX5, "oldOne", "(I)I"⟩
abbrev cX5_number : ByteArray := prog_7_method_18_code
def yX5_number : MethodName := ⟨RX5, "number", "(II)I"⟩
def RX6 : String := "PartsFerry$Seen"
def TX6 : u_T := fun k => match k with
  | 0 => ("PartsFerry$Seen", "size", "I", false)
  | 1 => ("PartsFerry$Seen", "by", "I", false)
  | 2 => ("PartsFerry$Seen", "days", "[I", true)
  | 3 => ("PartsFerry$Seen", "man", "[I", true)
  | 4 => ("PartsFerry$Seen", "sort", "[I", true)
  | 5 => ("PartsFerry$Seen", "isThere", "[Z", true)
  | 6 => ("PartsFerry$Seen", "target", "[I", true)
  | _ => ("PartsFerry$Seen", "isStruck", "[Z", true)
def tyX6 : Nat → FieldType := fun k => match k with
  | 0 => .int
  | 1 => .int
  | 2 => .array .int
  | 3 => .array .int
  | 4 => .array .int
  | 5 => .array .boolean
  | 6 => .array .int
  | _ => .array .boolean
abbrev wsX60 : List Cond := u_ws RX6 TX6 8
theorem nmX6 : ∀ a, a < 8 → ∀ b, b < 8 → a ≠ b → (TX6 a).2.1 ≠ (TX6 b).2.1 := by decide +kernel
theorem tyX6_ok : ∀ k, k < 8 → parseFieldDescriptor (TX6 k).2.2.1 = some (tyX6 k) := by decide +kernel
abbrev cX6_init : ByteArray := prog_8_method_1_code
def yX6_init : MethodName := ⟨RX6, "<init>", "()V"⟩
abbrev cX6_clear : ByteArray := prog_8_method_2_code
def yX6_clear : MethodName := ⟨RX6, "clear", "()V"⟩
abbrev cX6_limit : ByteArray := prog_8_method_3_code
def yX6_limit : MethodName := ⟨RX6, "limit", "()I"⟩
abbrev cX6_put : ByteArray := prog_8_method_4_code
def yX6_put : MethodName := ⟨RX6, "put", "(IIIZ)I"⟩
abbrev cX6_putStrike : ByteArray := prog_8_method_5_code
def yX6_putStrike : MethodName := ⟨RX6, "putStrike", "(I)I"⟩
abbrev cX6_weigh : ByteArray := prog_8_method_6_code
def yX6_weigh : MethodName := ⟨RX6, "weigh", "()I"⟩
abbrev cX6_agrees : ByteArray := prog_8_method_7_code
def yX6_agrees : MethodName := ⟨RX6, "agrees", "(ILPartsFerry$State;)Z"⟩
def RX7 : String := "PartsFerry$State"
def TX7 : u_T := fun k => match k with
  | 0 => ("PartsFerry$State", "told", "LPartsFerry$Told;", false)
  | 1 => ("PartsFerry$State", "day", "I", false)
  | 2 => ("PartsFerry$State", "last", "I", false)
  | 3 => ("PartsFerry$State", "storms", "I", false)
  | 4 => ("PartsFerry$State", "pence", "[I", true)
  | 5 => ("PartsFerry$State", "held", "[I", true)
  | 6 => ("PartsFerry$State", "lies", "[I", true)
  | 7 => ("PartsFerry$State", "sendings", "I", false)
  | 8 => ("PartsFerry$State", "sent", "[I", true)
  | _ => ("PartsFerry$State", "wantState", "[I", true)
def tyX7 : Nat → FieldType := fun k => match k with
  | 0 => .object "PartsFerry$Told"
  | 1 => .int
  | 2 => .int
  | 3 => .int
  | 4 => .array .int
  | 5 => .array .int
  | 6 => .array .int
  | 7 => .int
  | 8 => .array .int
  | _ => .array .int
abbrev wsX70 : List Cond := u_ws RX7 TX7 10
theorem nmX7 : ∀ a, a < 10 → ∀ b, b < 10 → a ≠ b → (TX7 a).2.1 ≠ (TX7 b).2.1 := by decide +kernel
theorem tyX7_ok : ∀ k, k < 10 → parseFieldDescriptor (TX7 k).2.2.1 = some (tyX7 k) := by decide +kernel
abbrev cX7_init : ByteArray := prog_9_method_1_code
def yX7_init : MethodName := ⟨RX7, "<init>", "(LPartsFerry$Told;)V"⟩
abbrev cX7_begin : ByteArray := prog_9_method_2_code
def yX7_begin : MethodName := ⟨RX7, "begin", "(LPartsFerry$Told;)V"⟩
abbrev cX7_copy : ByteArray := prog_9_method_3_code
def yX7_copy : MethodName := ⟨RX7, "copy", "(LPartsFerry$State;)V"⟩
abbrev cX7_giveOwn : ByteArray := prog_9_method_4_code
def yX7_giveOwn : MethodName := ⟨RX7, "giveOwn", "()V"⟩
abbrev cX7_sendingAt : ByteArray := prog_9_method_5_code
def yX7_sendingAt : MethodName := ⟨RX7, "sendingAt", "(II)I"⟩
abbrev cX7_setSending : ByteArray := prog_9_method_6_code
def yX7_setSending : MethodName := ⟨RX7, "setSending", "(III)V"⟩
abbrev cX7_putSending : ByteArray := prog_9_method_7_code
def yX7_putSending : MethodName := ⟨RX7, "putSending", "(III)V"⟩
abbrev cX7_isDue : ByteArray := prog_9_method_8_code
def yX7_isDue : MethodName := ⟨RX7, "isDue", "(I)Z"⟩
abbrev cX7_dueSendings : ByteArray := prog_9_method_9_code
def yX7_dueSendings : MethodName := ⟨RX7, "dueSendings", "()I"⟩
abbrev cX7_sendingsGone : ByteArray := prog_9_method_10_code
def yX7_sendingsGone : MethodName := ⟨RX7, "sendingsGone", "()I"⟩
abbrev cX7_exchange : ByteArray := prog_9_method_11_code
def yX7_exchange : MethodName := ⟨RX7, "exchange", "(III)V"⟩
abbrev cX7_sortsAt : ByteArray := prog_9_method_12_code
def yX7_sortsAt : MethodName := ⟨RX7, "sortsAt", "(II)I"⟩
abbrev cX7_away : ByteArray := prog_9_method_13_code
def yX7_away : MethodName := ⟨RX7, "away", "(I)I"⟩
abbrev cX7_ownSorts : ByteArray := prog_9_method_14_code
def yX7_ownSorts : MethodName := ⟨RX7, "ownSorts", "(I)I"⟩
abbrev cX7_lacks : ByteArray := prog_9_method_15_code
def yX7_lacks : MethodName := ⟨RX7, "lacks", "(III)I"⟩
abbrev cX7_wantsOf : ByteArray := prog_9_method_16_code
def yX7_wantsOf : MethodName := ⟨RX7, "wantsOf", "(II)I"⟩
abbrev cX7_wantsThatAre : ByteArray := prog_9_method_17_code
def yX7_wantsThatAre : MethodName := ⟨RX7, "wantsThatAre", "(I)I"⟩
abbrev cX7_allPence : ByteArray := prog_9_method_18_code
def yX7_allPence : MethodName := ⟨RX7, "allPence", "()I"⟩
abbrev cX7_mixed : ByteArray := prog_9_method_19_code
def yX7_mixed : MethodName := ⟨RX7, "mixed", "()I"⟩
abbrev cX7_holderOf : ByteArray := prog_9_method_20_code
def yX7_holderOf : MethodName := ⟨RX7, "holderOf", "(II)I"⟩
abbrev cX7_lost : ByteArray := prog_9_method_21_code
def yX7_lost : MethodName := ⟨RX7, "lost", "()I"⟩
abbrev cX7_halves : ByteArray := prog_9_method_22_code
def yX7_halves : MethodName := ⟨RX7, "halves", "()I"⟩
abbrev cX7_rings : ByteArray := prog_9_method_23_code
def yX7_rings : MethodName := ⟨RX7, "rings", "(I)I"⟩
def RX8 : String := "PartsFerry$Tokens"
def TX8 : u_T := fun k => match k with
  | 0 => ("PartsFerry$Tokens", "kind", "I", false)
  | 1 => ("PartsFerry$Tokens", "start", "I", false)
  | 2 => ("PartsFerry$Tokens", "value", "I", false)
  | 3 => ("PartsFerry$Tokens", "bytes", "[B", true)
  | 4 => ("PartsFerry$Tokens", "length", "I", false)
  | 5 => ("PartsFerry$Tokens", "next", "I", false)
  | _ => ("PartsFerry$Tokens", "words", "[I", true)
def tyX8 : Nat → FieldType := fun k => match k with
  | 0 => .int
  | 1 => .int
  | 2 => .int
  | 3 => .array .byte
  | 4 => .int
  | 5 => .int
  | _ => .array .int
abbrev wsX80 : List Cond := u_ws RX8 TX8 7
theorem nmX8 : ∀ a, a < 7 → ∀ b, b < 7 → a ≠ b → (TX8 a).2.1 ≠ (TX8 b).2.1 := by decide +kernel
theorem tyX8_ok : ∀ k, k < 7 → parseFieldDescriptor (TX8 k).2.2.1 = some (tyX8 k) := by decide +kernel
abbrev cX8_init : ByteArray := prog_10_method_1_code
def yX8_init : MethodName := ⟨RX8, "<init>", "([B)V"⟩
abbrev cX8_begin : ByteArray := prog_10_method_2_code
def yX8_begin : MethodName := ⟨RX8, "begin", "(I)V"⟩
abbrev cX8_isWord : ByteArray := prog_10_method_3_code
def yX8_isWord : MethodName := ⟨RX8, "isWord", "(I)Z"⟩
abbrev cX8_isSign : ByteArray := prog_10_method_4_code
def yX8_isSign : MethodName := ⟨RX8, "isSign", "(I)Z"⟩
abbrev cX8_step : ByteArray := prog_10_method_5_code
def yX8_step : MethodName := ⟨RX8, "step", "()V"⟩
abbrev cX8_isLetter : ByteArray := prog_10_method_6_code
def yX8_isLetter : MethodName := ⟨RX8, "isLetter", "(I)Z"⟩
abbrev cX8_isDigit : ByteArray := prog_10_method_7_code
def yX8_isDigit : MethodName := ⟨RX8, "isDigit", "(I)Z"⟩
abbrev cX8_stepWord : ByteArray := prog_10_method_8_code
def yX8_stepWord : MethodName := ⟨RX8, "stepWord", "()V"⟩
abbrev cX8_stepNumber : ByteArray := prog_10_method_9_code
def yX8_stepNumber : MethodName := ⟨RX8, "stepNumber", "()V"⟩
abbrev cX8_stepSign : ByteArray := prog_10_method_10_code
def yX8_stepSign : MethodName := ⟨RX8, "stepSign", "()V"⟩
abbrev cX8_signOf : ByteArray := prog_10_method_11_code
def yX8_signOf : MethodName := ⟨RX8, "signOf", "(I)I"⟩
def RX9 : String := "PartsFerry$Told"
def TX9 : u_T := fun k => match k with
  | 0 => ("PartsFerry$Told", "counts", "[I", true)
  | 1 => ("PartsFerry$Told", "names", "[I", true)
  | 2 => ("PartsFerry$Told", "pence", "[I", true)
  | 3 => ("PartsFerry$Told", "size", "[I", true)
  | 4 => ("PartsFerry$Told", "rate", "[I", true)
  | 5 => ("PartsFerry$Told", "needed", "[I", true)
  | 6 => ("PartsFerry$Told", "sendings", "I", false)
  | 7 => ("PartsFerry$Told", "sent", "[I", true)
  | 8 => ("PartsFerry$Told", "wants", "I", false)
  | 9 => ("PartsFerry$Told", "wanted", "[I", true)
  | 10 => ("PartsFerry$Told", "room", "I", false)
  | 11 => ("PartsFerry$Told", "storm", "I", false)
  | 12 => ("PartsFerry$Told", "seed", "I", false)
  | _ => ("PartsFerry$Told", "laws", "LPartsFerry$Laws;", true)
def tyX9 : Nat → FieldType := fun k => match k with
  | 0 => .array .int
  | 1 => .array .int
  | 2 => .array .int
  | 3 => .array .int
  | 4 => .array .int
  | 5 => .array .int
  | 6 => .int
  | 7 => .array .int
  | 8 => .int
  | 9 => .array .int
  | 10 => .int
  | 11 => .int
  | 12 => .int
  | _ => .object "PartsFerry$Laws"
abbrev wsX90 : List Cond := u_ws RX9 TX9 14
theorem nmX9 : ∀ a, a < 14 → ∀ b, b < 14 → a ≠ b → (TX9 a).2.1 ≠ (TX9 b).2.1 := by decide +kernel
theorem tyX9_ok : ∀ k, k < 14 → parseFieldDescriptor (TX9 k).2.2.1 = some (tyX9 k) := by decide +kernel
abbrev cX9_init : ByteArray := prog_11_method_1_code
def yX9_init : MethodName := ⟨RX9, "<init>", "()V"⟩
abbrev cX9_clear : ByteArray := prog_11_method_2_code
def yX9_clear : MethodName := ⟨RX9, "clear", "()V"⟩
abbrev cX9_find : ByteArray := prog_11_method_3_code
def yX9_find : MethodName := ⟨RX9, "find", "(II)I"⟩
abbrev cX9_wantAt : ByteArray := prog_11_method_4_code
def yX9_wantAt : MethodName := ⟨RX9, "wantAt", "(II)I"⟩
def RX10 : String := "PartsFerry"
def TX10 : u_T := fun k => match k with
  | 0 => ("PartsFerry", "tape", "[B", true)
  | 1 => ("PartsFerry", "taped", "I", false)
  | 2 => ("PartsFerry", "told", "LPartsFerry$Told;", false)
  | 3 => ("PartsFerry", "spare", "LPartsFerry$Told;", false)
  | 4 => ("PartsFerry", "reader", "LPartsFerry$Reader;", true)
  | 5 => ("PartsFerry", "fault", "I", false)
  | 6 => ("PartsFerry", "place", "I", false)
  | 7 => ("PartsFerry", "now", "LPartsFerry$State;", true)
  | 8 => ("PartsFerry", "image", "LPartsFerry$State;", true)
  | 9 => ("PartsFerry", "hasImage", "Z", false)
  | 10 => ("PartsFerry", "trial", "LPartsFerry$State;", true)
  | 11 => ("PartsFerry", "days", "LPartsFerry$Days;", true)
  | 12 => ("PartsFerry", "bestOfRoom", "[I", true)
  | 13 => ("PartsFerry", "order", "LPartsFerry$Order;", true)
  | 14 => ("PartsFerry", "seen", "LPartsFerry$Seen;", true)
  | _ => ("PartsFerry", "log", "LPartsFerry$Log;", true)
def tyX10 : Nat → FieldType := fun k => match k with
  | 0 => .array .byte
  | 1 => .int
  | 2 => .object "PartsFerry$Told"
  | 3 => .object "PartsFerry$Told"
  | 4 => .object "PartsFerry$Reader"
  | 5 => .int
  | 6 => .int
  | 7 => .object "PartsFerry$State"
  | 8 => .object "PartsFerry$State"
  | 9 => .boolean
  | 10 => .object "PartsFerry$State"
  | 11 => .object "PartsFerry$Days"
  | 12 => .array .int
  | 13 => .object "PartsFerry$Order"
  | 14 => .object "PartsFerry$Seen"
  | _ => .object "PartsFerry$Log"
abbrev wsX100 : List Cond := u_ws RX10 TX10 16
theorem nmX10 : ∀ a, a < 16 → ∀ b, b < 16 → a ≠ b → (TX10 a).2.1 ≠ (TX10 b).2.1 := by decide +kernel
theorem tyX10_ok : ∀ k, k < 16 → parseFieldDescriptor (TX10 k).2.2.1 = some (tyX10 k) := by decide +kernel
abbrev cX10_init : ByteArray := prog_1_method_1_code
def yX10_init : MethodName := ⟨RX10, "<init>", "()V"⟩
abbrev cX10_feed : ByteArray := prog_1_method_2_code
def yX10_feed : MethodName := ⟨RX10, "feed", "(IIIII)I"⟩
abbrev cX10_putFour : ByteArray := prog_1_method_3_code
def yX10_putFour : MethodName := ⟨RX10, "putFour", "(I)V"⟩
abbrev cX10_text : ByteArray := prog_1_method_4_code
def yX10_text : MethodName := ⟨RX10, "text", "(I)I"⟩
abbrev cX10_fault : ByteArray := prog_1_method_5_code
def yX10_fault : MethodName := ⟨RX10, "fault", "(I)I"⟩
abbrev cX10_named : ByteArray := prog_1_method_6_code
def yX10_named : MethodName := ⟨RX10, "named", "(II)I"⟩
abbrev cX10_man : ByteArray := prog_1_method_7_code
def yX10_man : MethodName := ⟨RX10, "man", "(II)I"⟩
abbrev cX10_sort : ByteArray := prog_1_method_8_code
def yX10_sort : MethodName := ⟨RX10, "sort", "(II)I"⟩
abbrev cX10_deed : ByteArray := prog_1_method_9_code
def yX10_deed : MethodName := ⟨RX10, "deed", "(I)I"⟩
abbrev cX10_sending : ByteArray := prog_1_method_10_code
def yX10_sending : MethodName := ⟨RX10, "sending", "(II)I"⟩
abbrev cX10_want : ByteArray := prog_1_method_11_code
def yX10_want : MethodName := ⟨RX10, "want", "(II)I"⟩
abbrev cX10_holds : ByteArray := prog_1_method_12_code
def yX10_holds : MethodName := ⟨RX10, "holds", "(II)I"⟩
abbrev cX10_port : ByteArray := prog_1_method_13_code
def yX10_port : MethodName := ⟨RX10, "port", "(II)I"⟩
abbrev cX10_can : ByteArray := prog_1_method_14_code
def yX10_can : MethodName := ⟨RX10, "can", "(III)I"⟩
abbrev cX10_law : ByteArray := prog_1_method_15_code
def yX10_law : MethodName := ⟨RX10, "law", "(III)J"⟩
abbrev cX10_send : ByteArray := prog_1_method_16_code
def yX10_send : MethodName := ⟨RX10, "send", "(III)I"⟩
abbrev cX10_take : ByteArray := prog_1_method_17_code
def yX10_take : MethodName := ⟨RX10, "take", "(I)Z"⟩
abbrev cX10_swap : ByteArray := prog_1_method_18_code
def yX10_swap : MethodName := ⟨RX10, "swap", "(III)Z"⟩
abbrev cX10_lend : ByteArray := prog_1_method_19_code
def yX10_lend : MethodName := ⟨RX10, "lend", "(II)I"⟩
abbrev cX10_go : ByteArray := prog_1_method_20_code
def yX10_go : MethodName := ⟨RX10, "go", "(I)I"⟩
abbrev cX10_ahead : ByteArray := prog_1_method_21_code
def yX10_ahead : MethodName := ⟨RX10, "ahead", "(III)I"⟩
abbrev cX10_first : ByteArray := prog_1_method_22_code
def yX10_first : MethodName := ⟨RX10, "first", "(III)I"⟩
abbrev cX10_load : ByteArray := prog_1_method_23_code
def yX10_load : MethodName := ⟨RX10, "load", "(I)I"⟩
abbrev cX10_bestLoad : ByteArray := prog_1_method_24_code
def yX10_bestLoad : MethodName := ⟨RX10, "bestLoad", "(Z)I"⟩
abbrev cX10_isDueBefore : ByteArray := prog_1_method_25_code
def yX10_isDueBefore : MethodName := ⟨RX10, "isDueBefore", "(I)Z"⟩
abbrev cX10_order : ByteArray := prog_1_method_26_code
def yX10_order : MethodName := ⟨RX10, "order", "(I)I"⟩
abbrev cX10_swaps : ByteArray := prog_1_method_27_code
def yX10_swaps : MethodName := ⟨RX10, "swaps", "()I"⟩
abbrev cX10_together : ByteArray := prog_1_method_28_code
def yX10_together : MethodName := ⟨RX10, "together", "(III)I"⟩
abbrev cX10_needs : ByteArray := prog_1_method_29_code
def yX10_needs : MethodName := ⟨RX10, "needs", "(III)I"⟩
abbrev cX10_cheap : ByteArray := prog_1_method_30_code
def yX10_cheap : MethodName := ⟨RX10, "cheap", "(III)I"⟩
abbrev cX10_rests : ByteArray := prog_1_method_31_code
def yX10_rests : MethodName := ⟨RX10, "rests", "(III)I"⟩
abbrev cX10_rest : ByteArray := prog_1_method_32_code
def yX10_rest : MethodName := ⟨RX10, "rest", "(IIII)I"⟩
abbrev cX10_isRest : ByteArray := prog_1_method_33_code
def yX10_isRest : MethodName := ⟨RX10, "isRest", "(IIII)Z"⟩
abbrev cX10_meetGain : ByteArray := prog_1_method_34_code
def yX10_meetGain : MethodName := ⟨RX10, "meetGain", "(IIII)I"⟩
abbrev cX10_calm : ByteArray := prog_1_method_35_code
def yX10_calm : MethodName := ⟨RX10, "calm", "(II)J"⟩
abbrev cX10_commonFactor : ByteArray := prog_1_method_36_code
def yX10_commonFactor : MethodName := ⟨RX10, "commonFactor", "(II)I"⟩
abbrev cX10_whose : ByteArray := prog_1_method_37_code
def yX10_whose : MethodName := ⟨RX10, "whose", "(II)I"⟩
abbrev cX10_those : ByteArray := prog_1_method_38_code
def yX10_those : MethodName := ⟨RX10, "those", "(I)I"⟩
abbrev cX10_see : ByteArray := prog_1_method_39_code
def yX10_see : MethodName := ⟨RX10, "see", "(IIIZ)I"⟩
abbrev cX10_out : ByteArray := prog_1_method_40_code
def yX10_out : MethodName := ⟨RX10, "out", "(I)I"⟩
abbrev cX10_known : ByteArray := prog_1_method_41_code
def yX10_known : MethodName := ⟨RX10, "known", "(I)Z"⟩
abbrev cX10_rooms : ByteArray := prog_1_method_42_code
def yX10_rooms : MethodName := ⟨RX10, "rooms", "()I"⟩
abbrev cX10_chance : ByteArray := prog_1_method_43_code
def yX10_chance : MethodName := ⟨RX10, "chance", "(III)I"⟩
abbrev cX10_tried : ByteArray := prog_1_method_44_code
def yX10_tried : MethodName := ⟨RX10, "tried", "(III)I"⟩
abbrev cX10_undo : ByteArray := prog_1_method_45_code
def yX10_undo : MethodName := ⟨RX10, "undo", "()I"⟩
abbrev cX10_keep : ByteArray := prog_1_method_46_code
def yX10_keep : MethodName := ⟨RX10, "keep", "()I"⟩
abbrev cX10_back : ByteArray := prog_1_method_47_code
def yX10_back : MethodName := ⟨RX10, "back", "()I"⟩
abbrev cX10_count : ByteArray := prog_1_method_48_code
def yX10_count : MethodName := ⟨RX10, "count", "(I)I"⟩
abbrev cX10_isMan : ByteArray := prog_1_method_49_code
def yX10_isMan : MethodName := ⟨RX10, "isMan", "(I)Z"⟩
abbrev cX10_isSort : ByteArray := prog_1_method_50_code
def yX10_isSort : MethodName := ⟨RX10, "isSort", "(I)Z"⟩
abbrev cX10_isDeed : ByteArray := prog_1_method_51_code
def yX10_isDeed : MethodName := ⟨RX10, "isDeed", "(I)Z"⟩
abbrev cX10_isSending : ByteArray := prog_1_method_52_code
def yX10_isSending : MethodName := ⟨RX10, "isSending", "(I)Z"⟩
abbrev cX10_isWant : ByteArray := prog_1_method_53_code
def yX10_isWant : MethodName := ⟨RX10, "isWant", "(I)Z"⟩
abbrev cX10_isPart : ByteArray := prog_1_method_54_code
def yX10_isPart : MethodName := ⟨RX10, "isPart", "(II)Z"⟩
abbrev cX10_isPort : ByteArray := prog_1_method_55_code
def yX10_isPort : MethodName := ⟨RX10, "isPort", "(I)Z"⟩
abbrev cX10_isTask : ByteArray := prog_1_method_56_code
def yX10_isTask : MethodName := ⟨RX10, "isTask", "(III)Z"⟩
abbrev cX10_isSpan : ByteArray := prog_1_method_57_code
def yX10_isSpan : MethodName := ⟨RX10, "isSpan", "(I)Z"⟩
def RX11 : String := "PartsFerryModel"
def TX11 : u_T := fun k => match k with
  | 0 => ("PartsFerryModel", "thrown", "I", false)
  | 1 => ("PartsFerryModel", "tape", "[I", true)
  | 2 => ("PartsFerryModel", "taped", "I", false)
  | 3 => ("PartsFerryModel", "number", "[I", true)
  | 4 => ("PartsFerryModel", "manName", "[I", true)
  | 5 => ("PartsFerryModel", "penceAs", "[I", true)
  | 6 => ("PartsFerryModel", "sortName", "[I", true)
  | 7 => ("PartsFerryModel", "sizeOf", "[I", true)
  | 8 => ("PartsFerryModel", "rateOf", "[I", true)
  | 9 => ("PartsFerryModel", "deedName", "[I", true)
  | 10 => ("PartsFerryModel", "deedSorts", "[I", true)
  | 11 => ("PartsFerryModel", "sendMan", "[I", true)
  | 12 => ("PartsFerryModel", "sendSort", "[I", true)
  | 13 => ("PartsFerryModel", "sendDay", "[I", true)
  | 14 => ("PartsFerryModel", "wantMan", "[I", true)
  | 15 => ("PartsFerryModel", "wantDeed", "[I", true)
  | 16 => ("PartsFerryModel", "wantPort", "[I", true)
  | 17 => ("PartsFerryModel", "wantDay", "[I", true)
  | 18 => ("PartsFerryModel", "wantWorth", "[I", true)
  | 19 => ("PartsFerryModel", "sumFrom", "[I", true)
  | 20 => ("PartsFerryModel", "sumTo", "[I", true)
  | 21 => ("PartsFerryModel", "knotSort", "[I", true)
  | 22 => ("PartsFerryModel", "knotValue", "[I", true)
  | 23 => ("PartsFerryModel", "told", "I", false)
  | 24 => ("PartsFerryModel", "lines", "I", false)
  | 25 => ("PartsFerryModel", "size", "I", false)
  | 26 => ("PartsFerryModel", "at", "I", false)
  | 27 => ("PartsFerryModel", "place", "I", false)
  | 28 => ("PartsFerryModel", "sort", "I", false)
  | 29 => ("PartsFerryModel", "value", "I", false)
  | 30 => ("PartsFerryModel", "fault", "I", false)
  | 31 => ("PartsFerryModel", "faultPlace", "I", false)
  | 32 => ("PartsFerryModel", "lastFault", "I", false)
  | 33 => ("PartsFerryModel", "lastPlace", "I", false)
  | 34 => ("PartsFerryModel", "open", "I", false)
  | 35 => ("PartsFerryModel", "counted", "I", false)
  | 36 => ("PartsFerryModel", "names", "[J", true)
  | 37 => ("PartsFerryModel", "worked", "[J", true)
  | 38 => ("PartsFerryModel", "workedMany", "I", false)
  | 39 => ("PartsFerryModel", "day", "[I", true)
  | 40 => ("PartsFerryModel", "drawn", "[I", true)
  | 41 => ("PartsFerryModel", "storms", "[I", true)
  | 42 => ("PartsFerryModel", "sends", "[I", true)
  | 43 => ("PartsFerryModel", "penceOf", "[I", true)
  | 44 => ("PartsFerryModel", "holdOf", "[I", true)
  | 45 => ("PartsFerryModel", "portOf", "[I", true)
  | 46 => ("PartsFerryModel", "outcome", "[I", true)
  | 47 => ("PartsFerryModel", "whoSends", "[I", true)
  | 48 => ("PartsFerryModel", "whatSends", "[I", true)
  | 49 => ("PartsFerryModel", "dueOf", "[I", true)
  | 50 => ("PartsFerryModel", "howSends", "[I", true)
  | 51 => ("PartsFerryModel", "hasImage", "Z", false)
  | 52 => ("PartsFerryModel", "undoMany", "I", false)
  | 53 => ("PartsFerryModel", "tryWhat", "I", false)
  | 54 => ("PartsFerryModel", "tryMan", "I", false)
  | 55 => ("PartsFerryModel", "roomTold", "I", false)
  | 56 => ("PartsFerryModel", "onBoard", "I", false)
  | 57 => ("PartsFerryModel", "loadBest", "I", false)
  | 58 => ("PartsFerryModel", "loadRates", "I", false)
  | 59 => ("PartsFerryModel", "four", "[I", true)
  | 60 => ("PartsFerryModel", "rowNow", "[I", true)
  | 61 => ("PartsFerryModel", "rowBest", "[I", true)
  | 62 => ("PartsFerryModel", "fourMany", "I", false)
  | 63 => ("PartsFerryModel", "rowMost", "I", false)
  | 64 => ("PartsFerryModel", "hasRow", "Z", false)
  | 65 => ("PartsFerryModel", "notes", "I", false)
  | 66 => ("PartsFerryModel", "knownBy", "I", false)
  | 67 => ("PartsFerryModel", "noteDays", "[I", true)
  | 68 => ("PartsFerryModel", "notePart", "[I", true)
  | 69 => ("PartsFerryModel", "noteThere", "[Z", true)
  | 70 => ("PartsFerryModel", "outs", "[I", true)
  | _ => ("PartsFerryModel", "isOut", "[Z", true)
def tyX11 : Nat → FieldType := fun k => match k with
  | 0 => .int
  | 1 => .array .int
  | 2 => .int
  | 3 => .array .int
  | 4 => .array .int
  | 5 => .array .int
  | 6 => .array .int
  | 7 => .array .int
  | 8 => .array .int
  | 9 => .array .int
  | 10 => .array .int
  | 11 => .array .int
  | 12 => .array .int
  | 13 => .array .int
  | 14 => .array .int
  | 15 => .array .int
  | 16 => .array .int
  | 17 => .array .int
  | 18 => .array .int
  | 19 => .array .int
  | 20 => .array .int
  | 21 => .array .int
  | 22 => .array .int
  | 23 => .int
  | 24 => .int
  | 25 => .int
  | 26 => .int
  | 27 => .int
  | 28 => .int
  | 29 => .int
  | 30 => .int
  | 31 => .int
  | 32 => .int
  | 33 => .int
  | 34 => .int
  | 35 => .int
  | 36 => .array .long
  | 37 => .array .long
  | 38 => .int
  | 39 => .array .int
  | 40 => .array .int
  | 41 => .array .int
  | 42 => .array .int
  | 43 => .array .int
  | 44 => .array .int
  | 45 => .array .int
  | 46 => .array .int
  | 47 => .array .int
  | 48 => .array .int
  | 49 => .array .int
  | 50 => .array .int
  | 51 => .boolean
  | 52 => .int
  | 53 => .int
  | 54 => .int
  | 55 => .int
  | 56 => .int
  | 57 => .int
  | 58 => .int
  | 59 => .array .int
  | 60 => .array .int
  | 61 => .array .int
  | 62 => .int
  | 63 => .int
  | 64 => .boolean
  | 65 => .int
  | 66 => .int
  | 67 => .array .int
  | 68 => .array .int
  | 69 => .array .boolean
  | 70 => .array .int
  | _ => .array .boolean
abbrev wsX110 : List Cond := u_ws RX11 TX11 72
theorem nmX11 : ∀ a, a < 72 → ∀ b, b < 72 → a ≠ b → (TX11 a).2.1 ≠ (TX11 b).2.1 := by decide +kernel
theorem tyX11_ok : ∀ k, k < 72 → parseFieldDescriptor (TX11 k).2.2.1 = some (tyX11 k) := by decide +kernel
abbrev cX11_init : ByteArray := prog_13_method_1_code
def yX11_init : MethodName := ⟨RX11, "<init>", "()V"⟩
abbrev cX11_thrown : ByteArray := prog_13_method_2_code
def yX11_thrown : MethodName := ⟨RX11, "thrown", "()I"⟩
abbrev cX11_feed : ByteArray := prog_13_method_3_code
def yX11_feed : MethodName := ⟨RX11, "feed", "(IIIII)I"⟩
abbrev cX11_here : ByteArray := prog_13_method_4_code
def yX11_here : MethodName := ⟨RX11, "here", "()I"⟩
abbrev cX11_isSmall : ByteArray := prog_13_method_5_code
def yX11_isSmall : MethodName := ⟨RX11, "isSmall", "(I)Z"⟩
abbrev cX11_isDigit : ByteArray := prog_13_method_6_code
def yX11_isDigit : MethodName := ⟨RX11, "isDigit", "(I)Z"⟩
abbrev cX11_token : ByteArray := prog_13_method_7_code
def yX11_token : MethodName := ⟨RX11, "token", "()V"⟩
abbrev cX11_sign : ByteArray := prog_13_method_8_code
def yX11_sign : MethodName := ⟨RX11, "sign", "(I)V"⟩
abbrev cX11_word : ByteArray := prog_13_method_9_code
def yX11_word : MethodName := ⟨RX11, "word", "()I"⟩
abbrev cX11_name : ByteArray := prog_13_method_10_code
def yX11_name : MethodName := ⟨RX11, "name", "()V"⟩
abbrev cX11_wrong : ByteArray := prog_13_method_11_code
def yX11_wrong : MethodName := ⟨RX11, "wrong", "(I)V"⟩
abbrev cX11_isWord : ByteArray := prog_13_method_12_code
def yX11_isWord : MethodName := ⟨RX11, "isWord", "(I)Z"⟩
abbrev cX11_isSign : ByteArray := prog_13_method_13_code
def yX11_isSign : MethodName := ⟨RX11, "isSign", "(I)Z"⟩
abbrev cX11_goOn : ByteArray := prog_13_method_14_code
def yX11_goOn : MethodName := ⟨RX11, "goOn", "()V"⟩
abbrev cX11_numeral : ByteArray := prog_13_method_15_code
def yX11_numeral : MethodName := ⟨RX11, "numeral", "(II)I"⟩
abbrev cX11_found : ByteArray := prog_13_method_16_code
def yX11_found : MethodName := ⟨RX11, "found", "([IIII)I"⟩
abbrev cX11_fresh : ByteArray := prog_13_method_17_code
def yX11_fresh : MethodName := ⟨RX11, "fresh", "([III)I"⟩
abbrev cX11_fresher : ByteArray := prog_13_method_18_code
def yX11_fresher : MethodName := ⟨RX11, "fresher", "(I)I"⟩
abbrev cX11_reads : ByteArray := prog_13_method_19_code
def yX11_reads : MethodName := ⟨RX11, "reads", "(II)V"⟩
abbrev cX11_toldAhead : ByteArray := prog_13_method_20_code
def yX11_toldAhead : MethodName := ⟨RX11, "toldAhead", "([III)I"⟩
abbrev cX11_manAhead : ByteArray := prog_13_method_21_code
def yX11_manAhead : MethodName := ⟨RX11, "manAhead", "()I"⟩
abbrev cX11_isFull : ByteArray := prog_13_method_22_code
def yX11_isFull : MethodName := ⟨RX11, "isFull", "(I)Z"⟩
abbrev cX11_line : ByteArray := prog_13_method_23_code
def yX11_line : MethodName := ⟨RX11, "line", "()V"⟩
abbrev cX11_wantLine : ByteArray := prog_13_method_24_code
def yX11_wantLine : MethodName := ⟨RX11, "wantLine", "(I)V"⟩
abbrev cX11_lawLine : ByteArray := prog_13_method_25_code
def yX11_lawLine : MethodName := ⟨RX11, "lawLine", "()V"⟩
abbrev cX11_puts : ByteArray := prog_13_method_26_code
def yX11_puts : MethodName := ⟨RX11, "puts", "(II)V"⟩
abbrev cX11_knot : ByteArray := prog_13_method_27_code
def yX11_knot : MethodName := ⟨RX11, "knot", "()V"⟩
abbrev cX11_expression : ByteArray := prog_13_method_28_code
def yX11_expression : MethodName := ⟨RX11, "expression", "()V"⟩
abbrev cX11_conjunction : ByteArray := prog_13_method_29_code
def yX11_conjunction : MethodName := ⟨RX11, "conjunction", "()V"⟩
abbrev cX11_negation : ByteArray := prog_13_method_30_code
def yX11_negation : MethodName := ⟨RX11, "negation", "()V"⟩
abbrev cX11_sum : ByteArray := prog_13_method_31_code
def yX11_sum : MethodName := ⟨RX11, "sum", "()V"⟩
abbrev cX11_product : ByteArray := prog_13_method_32_code
def yX11_product : MethodName := ⟨RX11, "product", "()V"⟩
abbrev cX11_primary : ByteArray := prog_13_method_33_code
def yX11_primary : MethodName := ⟨RX11, "primary", "()V"⟩
abbrev cX11_half : ByteArray := prog_13_method_34_code
def yX11_half : MethodName := ⟨RX11, "half", "([I)V"⟩
abbrev cX11_text : ByteArray := prog_13_method_35_code
def yX11_text : MethodName := ⟨RX11, "text", "(I)I"⟩
abbrev cX11_fault : ByteArray := prog_13_method_36_code
def yX11_fault : MethodName := ⟨RX11, "fault", "(I)I"⟩
abbrev cX11_named : ByteArray := prog_13_method_37_code
def yX11_named : MethodName := ⟨RX11, "named", "(II)I"⟩
abbrev cX11_is : ByteArray := prog_13_method_38_code
def yX11_is : MethodName := ⟨RX11, "is", "(Z)J"⟩
abbrev cX11_works : ByteArray := prog_13_method_39_code
def yX11_works : MethodName := ⟨RX11, "works", "(I)Z"⟩
abbrev cX11_goes : ByteArray := prog_13_method_40_code
def yX11_goes : MethodName := ⟨RX11, "goes", "(I)Z"⟩
abbrev cX11_hasLaw : ByteArray := prog_13_method_41_code
def yX11_hasLaw : MethodName := ⟨RX11, "hasLaw", "(I)Z"⟩
abbrev cX11_starts : ByteArray := prog_13_method_42_code
def yX11_starts : MethodName := ⟨RX11, "starts", "(I)V"⟩
abbrev cX11_begins : ByteArray := prog_13_method_43_code
def yX11_begins : MethodName := ⟨RX11, "begins", "()V"⟩
abbrev cX11_copies : ByteArray := prog_13_method_44_code
def yX11_copies : MethodName := ⟨RX11, "copies", "(II)V"⟩
abbrev cX11_isMan : ByteArray := prog_13_method_45_code
def yX11_isMan : MethodName := ⟨RX11, "isMan", "(I)Z"⟩
abbrev cX11_isSort : ByteArray := prog_13_method_46_code
def yX11_isSort : MethodName := ⟨RX11, "isSort", "(I)Z"⟩
abbrev cX11_isDeed : ByteArray := prog_13_method_47_code
def yX11_isDeed : MethodName := ⟨RX11, "isDeed", "(I)Z"⟩
abbrev cX11_isSending : ByteArray := prog_13_method_48_code
def yX11_isSending : MethodName := ⟨RX11, "isSending", "(I)Z"⟩
abbrev cX11_isPort : ByteArray := prog_13_method_49_code
def yX11_isPort : MethodName := ⟨RX11, "isPort", "(I)Z"⟩
abbrev cX11_bitsOf : ByteArray := prog_13_method_50_code
def yX11_bitsOf : MethodName := ⟨RX11, "bitsOf", "(I)I"⟩
abbrev cX11_awayOf : ByteArray := prog_13_method_51_code
def yX11_awayOf : MethodName := ⟨RX11, "awayOf", "(II)I"⟩
abbrev cX11_boardOf : ByteArray := prog_13_method_52_code
def yX11_boardOf : MethodName := ⟨RX11, "boardOf", "(I)I"⟩
abbrev cX11_calls : ByteArray := prog_13_method_53_code
def yX11_calls : MethodName := ⟨RX11, "calls", "(IIIII)V"⟩
abbrev cX11_within : ByteArray := prog_13_method_54_code
def yX11_within : MethodName := ⟨RX11, "within", "(III)I"⟩
abbrev cX11_canDo : ByteArray := prog_13_method_55_code
def yX11_canDo : MethodName := ⟨RX11, "canDo", "(IIII)Z"⟩
abbrev cX11_wants : ByteArray := prog_13_method_56_code
def yX11_wants : MethodName := ⟨RX11, "wants", "(II)V"⟩
abbrev cX11_fareOf : ByteArray := prog_13_method_57_code
def yX11_fareOf : MethodName := ⟨RX11, "fareOf", "(III)I"⟩
abbrev cX11_isDue : ByteArray := prog_13_method_58_code
def yX11_isDue : MethodName := ⟨RX11, "isDue", "(II)Z"⟩
abbrev cX11_isAtBoat : ByteArray := prog_13_method_59_code
def yX11_isAtBoat : MethodName := ⟨RX11, "isAtBoat", "(III)Z"⟩
abbrev cX11_loads : ByteArray := prog_13_method_60_code
def yX11_loads : MethodName := ⟨RX11, "loads", "(I)V"⟩
abbrev cX11_doesStorm : ByteArray := prog_13_method_61_code
def yX11_doesStorm : MethodName := ⟨RX11, "doesStorm", "(IZ)Z"⟩
abbrev cX11_mixes : ByteArray := prog_13_method_62_code
def yX11_mixes : MethodName := ⟨RX11, "mixes", "(II)V"⟩
abbrev cX11_passes : ByteArray := prog_13_method_63_code
def yX11_passes : MethodName := ⟨RX11, "passes", "(IZ)V"⟩
abbrev cX11_goesOn : ByteArray := prog_13_method_64_code
def yX11_goesOn : MethodName := ⟨RX11, "goesOn", "(I)V"⟩
abbrev cX11_runs : ByteArray := prog_13_method_65_code
def yX11_runs : MethodName := ⟨RX11, "runs", "(I)V"⟩
abbrev cX11_outcomes : ByteArray := prog_13_method_66_code
def yX11_outcomes : MethodName := ⟨RX11, "outcomes", "(II)I"⟩
abbrev cX11_goneMany : ByteArray := prog_13_method_67_code
def yX11_goneMany : MethodName := ⟨RX11, "goneMany", "(I)I"⟩
abbrev cX11_mixedMany : ByteArray := prog_13_method_68_code
def yX11_mixedMany : MethodName := ⟨RX11, "mixedMany", "(I)I"⟩
abbrev cX11_penceAll : ByteArray := prog_13_method_69_code
def yX11_penceAll : MethodName := ⟨RX11, "penceAll", "(I)I"⟩
abbrev cX11_wantsOf : ByteArray := prog_13_method_70_code
def yX11_wantsOf : MethodName := ⟨RX11, "wantsOf", "(II)I"⟩
abbrev cX11_man : ByteArray := prog_13_method_71_code
def yX11_man : MethodName := ⟨RX11, "man", "(II)I"⟩
abbrev cX11_sort : ByteArray := prog_13_method_72_code
def yX11_sort : MethodName := ⟨RX11, "sort", "(II)I"⟩
abbrev cX11_deed : ByteArray := prog_13_method_73_code
def yX11_deed : MethodName := ⟨RX11, "deed", "(I)I"⟩
abbrev cX11_sending : ByteArray := prog_13_method_74_code
def yX11_sending : MethodName := ⟨RX11, "sending", "(II)I"⟩
abbrev cX11_want : ByteArray := prog_13_method_75_code
def yX11_want : MethodName := ⟨RX11, "want", "(II)I"⟩
abbrev cX11_holds : ByteArray := prog_13_method_76_code
def yX11_holds : MethodName := ⟨RX11, "holds", "(II)I"⟩
abbrev cX11_port : ByteArray := prog_13_method_77_code
def yX11_port : MethodName := ⟨RX11, "port", "(II)I"⟩
abbrev cX11_areThese : ByteArray := prog_13_method_78_code
def yX11_areThese : MethodName := ⟨RX11, "areThese", "(III)Z"⟩
abbrev cX11_can : ByteArray := prog_13_method_79_code
def yX11_can : MethodName := ⟨RX11, "can", "(III)I"⟩
abbrev cX11_law : ByteArray := prog_13_method_80_code
def yX11_law : MethodName := ⟨RX11, "law", "(III)J"⟩
abbrev cX11_keepNow : ByteArray := prog_13_method_81_code
def yX11_keepNow : MethodName := ⟨RX11, "keepNow", "()V"⟩
abbrev cX11_send : ByteArray := prog_13_method_82_code
def yX11_send : MethodName := ⟨RX11, "send", "(III)I"⟩
abbrev cX11_take : ByteArray := prog_13_method_83_code
def yX11_take : MethodName := ⟨RX11, "take", "(I)Z"⟩
abbrev cX11_swap : ByteArray := prog_13_method_84_code
def yX11_swap : MethodName := ⟨RX11, "swap", "(III)Z"⟩
abbrev cX11_lend : ByteArray := prog_13_method_85_code
def yX11_lend : MethodName := ⟨RX11, "lend", "(II)I"⟩
abbrev cX11_go : ByteArray := prog_13_method_86_code
def yX11_go : MethodName := ⟨RX11, "go", "(I)I"⟩
abbrev cX11_ahead : ByteArray := prog_13_method_87_code
def yX11_ahead : MethodName := ⟨RX11, "ahead", "(III)I"⟩
abbrev cX11_first : ByteArray := prog_13_method_88_code
def yX11_first : MethodName := ⟨RX11, "first", "(III)I"⟩
abbrev cX11_layLoad : ByteArray := prog_13_method_89_code
def yX11_layLoad : MethodName := ⟨RX11, "layLoad", "()V"⟩
abbrev cX11_load : ByteArray := prog_13_method_90_code
def yX11_load : MethodName := ⟨RX11, "load", "(I)I"⟩
abbrev cX11_rows : ByteArray := prog_13_method_91_code
def yX11_rows : MethodName := ⟨RX11, "rows", "(II)V"⟩
abbrev cX11_order : ByteArray := prog_13_method_92_code
def yX11_order : MethodName := ⟨RX11, "order", "(I)I"⟩
abbrev cX11_swaps : ByteArray := prog_13_method_93_code
def yX11_swaps : MethodName := ⟨RX11, "swaps", "()I"⟩
abbrev cX11_together : ByteArray := prog_13_method_94_code
def yX11_together : MethodName := ⟨RX11, "together", "(III)I"⟩
abbrev cX11_needsOf : ByteArray := prog_13_method_95_code
def yX11_needsOf : MethodName := ⟨RX11, "needsOf", "(III)I"⟩
abbrev cX11_needs : ByteArray := prog_13_method_96_code
def yX11_needs : MethodName := ⟨RX11, "needs", "(III)I"⟩
abbrev cX11_cheap : ByteArray := prog_13_method_97_code
def yX11_cheap : MethodName := ⟨RX11, "cheap", "(III)I"⟩
abbrev cX11_hasOf : ByteArray := prog_13_method_98_code
def yX11_hasOf : MethodName := ⟨RX11, "hasOf", "(IIII)I"⟩
abbrev cX11_isRest : ByteArray := prog_13_method_99_code
def yX11_isRest : MethodName := ⟨RX11, "isRest", "(IIII)Z"⟩
abbrev cX11_restOf : ByteArray := prog_13_method_100_code
def yX11_restOf : MethodName := ⟨RX11, "restOf", "(IIII)I"⟩
abbrev cX11_areTwo : ByteArray := prog_13_method_101_code
def yX11_areTwo : MethodName := ⟨RX11, "areTwo", "(III)Z"⟩
abbrev cX11_rests : ByteArray := prog_13_method_102_code
def yX11_rests : MethodName := ⟨RX11, "rests", "(III)I"⟩
abbrev cX11_rest : ByteArray := prog_13_method_103_code
def yX11_rest : MethodName := ⟨RX11, "rest", "(IIII)I"⟩
abbrev cX11_common : ByteArray := prog_13_method_104_code
def yX11_common : MethodName := ⟨RX11, "common", "(JJ)J"⟩
abbrev cX11_calm : ByteArray := prog_13_method_105_code
def yX11_calm : MethodName := ⟨RX11, "calm", "(II)J"⟩
abbrev cX11_holderOf : ByteArray := prog_13_method_106_code
def yX11_holderOf : MethodName := ⟨RX11, "holderOf", "(II)I"⟩
abbrev cX11_whose : ByteArray := prog_13_method_107_code
def yX11_whose : MethodName := ⟨RX11, "whose", "(II)I"⟩
abbrev cX11_isLost : ByteArray := prog_13_method_108_code
def yX11_isLost : MethodName := ⟨RX11, "isLost", "(I)Z"⟩
abbrev cX11_those : ByteArray := prog_13_method_109_code
def yX11_those : MethodName := ⟨RX11, "those", "(I)I"⟩
abbrev cX11_see : ByteArray := prog_13_method_110_code
def yX11_see : MethodName := ⟨RX11, "see", "(IIIZ)I"⟩
abbrev cX11_out : ByteArray := prog_13_method_111_code
def yX11_out : MethodName := ⟨RX11, "out", "(I)I"⟩
abbrev cX11_known : ByteArray := prog_13_method_112_code
def yX11_known : MethodName := ⟨RX11, "known", "(I)Z"⟩
abbrev cX11_knownMany : ByteArray := prog_13_method_113_code
def yX11_knownMany : MethodName := ⟨RX11, "knownMany", "()I"⟩
abbrev cX11_isSo : ByteArray := prog_13_method_114_code
def yX11_isSo : MethodName := ⟨RX11, "isSo", "(I)Z"⟩
abbrev cX11_fitsRoom : ByteArray := prog_13_method_115_code
def yX11_fitsRoom : MethodName := ⟨RX11, "fitsRoom", "(I)Z"⟩
abbrev cX11_rooms : ByteArray := prog_13_method_116_code
def yX11_rooms : MethodName := ⟨RX11, "rooms", "()I"⟩
abbrev cX11_chance : ByteArray := prog_13_method_117_code
def yX11_chance : MethodName := ⟨RX11, "chance", "(III)I"⟩
abbrev cX11_ownsAgain : ByteArray := prog_13_method_118_code
def yX11_ownsAgain : MethodName := ⟨RX11, "ownsAgain", "(I)V"⟩
abbrev cX11_tried : ByteArray := prog_13_method_119_code
def yX11_tried : MethodName := ⟨RX11, "tried", "(III)I"⟩
abbrev cX11_undo : ByteArray := prog_13_method_120_code
def yX11_undo : MethodName := ⟨RX11, "undo", "()I"⟩
abbrev cX11_keep : ByteArray := prog_13_method_121_code
def yX11_keep : MethodName := ⟨RX11, "keep", "()I"⟩
abbrev cX11_back : ByteArray := prog_13_method_122_code
def yX11_back : MethodName := ⟨RX11, "back", "()I"⟩
abbrev cX11_count : ByteArray := prog_13_method_123_code
def yX11_count : MethodName := ⟨RX11, "count", "(I)I"⟩
def RJx145de : String := "java/io/Serializable"
def RJx9f9b0 : String := "java/lang/CharSequence"
def RJxb160c : String := "java/lang/Comparable"
def RJ6 : String := "java/lang/Integer"
abbrev cJ6_bitCount_0f7a4 : ByteArray := prog_19_method_49_code
def yJ6_bitCount_0f7a4 : MethodName := ⟨RJ6, "bitCount", "(I)I"⟩
def RJ9 : String := "java/lang/Math"
abbrev cJ9_abs_067f4 : ByteArray := prog_20_method_61_code
def yJ9_abs_067f4 : MethodName := ⟨RJ9, "abs", "(J)J"⟩
abbrev cJ9_max_7cf53 : ByteArray := prog_20_method_65_code
def yJ9_max_7cf53 : MethodName := ⟨RJ9, "max", "(II)I"⟩
abbrev cJ9_max_f86c9 : ByteArray := prog_20_method_66_code
def yJ9_max_f86c9 : MethodName := ⟨RJ9, "max", "(JJ)J"⟩
abbrev cJ9_min_7cf53 : ByteArray := prog_20_method_69_code
def yJ9_min_7cf53 : MethodName := ⟨RJ9, "min", "(II)I"⟩
abbrev cJ9_min_f86c9 : ByteArray := prog_20_method_70_code
def yJ9_min_f86c9 : MethodName := ⟨RJ9, "min", "(JJ)J"⟩
def RJ0 : String := "java/lang/String"
abbrev cJ0_length_8abf5 : ByteArray := prog_22_method_54_code
def yJ0_length_8abf5 : MethodName := ⟨RJ0, "length", "()I"⟩
abbrev cJ0_charAt_5068e : ByteArray := prog_22_method_56_code
def yJ0_charAt_5068e : MethodName := ⟨RJ0, "charAt", "(I)C"⟩
abbrev cJ0_coder_7d493 : ByteArray := prog_22_method_152_code
def yJ0_coder_7d493 : MethodName := ⟨RJ0, "coder", "()B"⟩
abbrev cJ0_isLatin1_aae02 : ByteArray := prog_22_method_154_code
def yJ0_isLatin1_aae02 : MethodName := ⟨RJ0, "isLatin1", "()Z"⟩
abbrev cJ0_checkIndex_df160 : ByteArray := prog_22_method_155_code
def yJ0_checkIndex_df160 : MethodName := ⟨RJ0, "checkIndex", "(II)V"⟩
def RJ1 : String := "java/lang/StringLatin1"
abbrev cJ1_charAt_3b067 : ByteArray := prog_23_method_2_code
def yJ1_charAt_3b067 : MethodName := ⟨RJ1, "charAt", "([BI)C"⟩
def RJ2 : String := "java/lang/StringUTF16"
abbrev cJ2_getChar_3b067 : ByteArray := prog_24_method_5_code
def yJ2_getChar_3b067 : MethodName := ⟨RJ2, "getChar", "([BI)C"⟩
abbrev cJ2_length_9d52b : ByteArray := prog_24_method_6_code
def yJ2_length_9d52b : MethodName := ⟨RJ2, "length", "([B)I"⟩
abbrev cJ2_charAt_3b067 : ByteArray := prog_24_method_83_code
def yJ2_charAt_3b067 : MethodName := ⟨RJ2, "charAt", "([BI)C"⟩
abbrev cJ2_checkIndex_2214a : ByteArray := prog_24_method_91_code
def yJ2_checkIndex_2214a : MethodName := ⟨RJ2, "checkIndex", "(I[B)V"⟩
def RJ10 : String := "java/lang/System"
def RJxfd54e : String := "java/lang/constant/Constable"
def RJx3cf43 : String := "java/lang/constant/ConstantDesc"
def RJ3 : String := "jdk/internal/util/Preconditions"
abbrev cJ3_checkIndex_8e157 : ByteArray := prog_30_method_11_code
def yJ3_checkIndex_8e157 : MethodName := ⟨RJ3, "checkIndex", "(IILjava/util/function/BiFunction;)I"⟩
def RL : String := "PartsFerryLaw"
abbrev cL_man : ByteArray := method_3_code
def yL_man : MethodName := ⟨RL, "man", "(LPartsFerry;II[J)I"⟩
abbrev cL_law : ByteArray := code
def yL_law : MethodName := ⟨RL, "law", "([I)Z"⟩
abbrev vwCl : List vw_C := [(RX0, TX0, 9), (RX1, TX1, 7), (RX2, TX2, 5), (RX3, TX3, 2), (RX4, TX4, 5), (RX5, TX5, 9), (RX6, TX6, 8), (RX7, TX7, 10), (RX8, TX8, 7), (RX9, TX9, 14), (RX10, TX10, 16), (RX11, TX11, 72)]
