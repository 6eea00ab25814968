-- ===== PART A: goes FIRST, ahead of the names: the tables' words, and 'selects' of the private methods out of them =====
/-- a private method of a class that the tables say can be made, by its rows of tables_1 -/
def lw_okq (q : MethodName × Nat) : Prop := (q.1.cls ≠ "java/lang/invoke/MethodHandle" ∧ q.1.cls ≠ "java/lang/invoke/VarHandle") ∧ Cond.instantiable q.1.cls q.2 ∈ tables_1 ∧ Cond.privateMethod q.1 ∈ tables_1 ∧ Cond.instanceMethod q.1 ∈ tables_1
theorem lw_p0 : lw_okq (⟨"TouchBench", "found", "(J)J"⟩, 10) := ⟨⟨by decide +kernel, by decide +kernel⟩, List.mem_of_getElem? (i := 18) (by decide +kernel), List.mem_of_getElem? (i := 377) (by decide +kernel), List.mem_of_getElem? (i := 378) (by decide +kernel)⟩
theorem lw_p1 : lw_okq (⟨"TouchBench", "isPoint", "(II)Z"⟩, 10) := ⟨⟨by decide +kernel, by decide +kernel⟩, List.mem_of_getElem? (i := 18) (by decide +kernel), List.mem_of_getElem? (i := 410) (by decide +kernel), List.mem_of_getElem? (i := 411) (by decide +kernel)⟩
theorem lw_p2 : lw_okq (⟨"TouchBench", "mendPoint", "(LTouchBench$Part;I)Z"⟩, 10) := ⟨⟨by decide +kernel, by decide +kernel⟩, List.mem_of_getElem? (i := 18) (by decide +kernel), List.mem_of_getElem? (i := 427) (by decide +kernel), List.mem_of_getElem? (i := 428) (by decide +kernel)⟩
theorem lw_p3 : lw_okq (⟨"TouchBench$FlatFit", "start", "(LTouchBench$Part;)V"⟩, 9) := ⟨⟨by decide +kernel, by decide +kernel⟩, List.mem_of_getElem? (i := 48) (by decide +kernel), List.mem_of_getElem? (i := 524) (by decide +kernel), List.mem_of_getElem? (i := 525) (by decide +kernel)⟩
theorem lw_p4 : lw_okq (⟨"TouchBench$FlatFit", "isBetter", "(I)Z"⟩, 9) := ⟨⟨by decide +kernel, by decide +kernel⟩, List.mem_of_getElem? (i := 48) (by decide +kernel), List.mem_of_getElem? (i := 532) (by decide +kernel), List.mem_of_getElem? (i := 533) (by decide +kernel)⟩
theorem lw_p5 : lw_okq (⟨"TouchBench$FlatFit", "crossOf", "(II)J"⟩, 9) := ⟨⟨by decide +kernel, by decide +kernel⟩, List.mem_of_getElem? (i := 48) (by decide +kernel), List.mem_of_getElem? (i := 536) (by decide +kernel), List.mem_of_getElem? (i := 537) (by decide +kernel)⟩
theorem lw_p6 : lw_okq (⟨"TouchBench$FlatFit", "isBeaten", "(JJ)Z"⟩, 9) := ⟨⟨by decide +kernel, by decide +kernel⟩, List.mem_of_getElem? (i := 48) (by decide +kernel), List.mem_of_getElem? (i := 540) (by decide +kernel), List.mem_of_getElem? (i := 541) (by decide +kernel)⟩
theorem lw_p7 : lw_okq (⟨"TouchBench$FlatFit", "keepBest", "(JJII)V"⟩, 9) := ⟨⟨by decide +kernel, by decide +kernel⟩, List.mem_of_getElem? (i := 48) (by decide +kernel), List.mem_of_getElem? (i := 547) (by decide +kernel), List.mem_of_getElem? (i := 548) (by decide +kernel)⟩
theorem lw_p8 : lw_okq (⟨"TouchBench$FlatFit", "hold", "(III)V"⟩, 9) := ⟨⟨by decide +kernel, by decide +kernel⟩, List.mem_of_getElem? (i := 48) (by decide +kernel), List.mem_of_getElem? (i := 552) (by decide +kernel), List.mem_of_getElem? (i := 553) (by decide +kernel)⟩
theorem lw_p9 : lw_okq (⟨"TouchBench$FlatFit", "finish", "(LTouchBench$Figure;II)V"⟩, 9) := ⟨⟨by decide +kernel, by decide +kernel⟩, List.mem_of_getElem? (i := 48) (by decide +kernel), List.mem_of_getElem? (i := 570) (by decide +kernel), List.mem_of_getElem? (i := 571) (by decide +kernel)⟩
theorem lw_p10 : lw_okq (⟨"TouchBench$FlatFit", "trySecondPairs", "(II)V"⟩, 9) := ⟨⟨by decide +kernel, by decide +kernel⟩, List.mem_of_getElem? (i := 48) (by decide +kernel), List.mem_of_getElem? (i := 582) (by decide +kernel), List.mem_of_getElem? (i := 583) (by decide +kernel)⟩
theorem lw_p11 : lw_okq (⟨"TouchBench$FlatFit", "crossProduct", "(IIII)V"⟩, 9) := ⟨⟨by decide +kernel, by decide +kernel⟩, List.mem_of_getElem? (i := 48) (by decide +kernel), List.mem_of_getElem? (i := 586) (by decide +kernel), List.mem_of_getElem? (i := 587) (by decide +kernel)⟩
theorem lw_p12 : lw_okq (⟨"TouchBench$CircleFit", "holdOnePlace", "(LTouchBench$Figure;)Z"⟩, 5) := ⟨⟨by decide +kernel, by decide +kernel⟩, List.mem_of_getElem? (i := 114) (by decide +kernel), List.mem_of_getElem? (i := 595) (by decide +kernel), List.mem_of_getElem? (i := 596) (by decide +kernel)⟩
theorem lw_p13 : lw_okq (⟨"TouchBench$CircleFit", "setCircle", "(IJJJ)V"⟩, 5) := ⟨⟨by decide +kernel, by decide +kernel⟩, List.mem_of_getElem? (i := 114) (by decide +kernel), List.mem_of_getElem? (i := 603) (by decide +kernel), List.mem_of_getElem? (i := 604) (by decide +kernel)⟩
theorem lw_p14 : lw_okq (⟨"TouchBench$CircleFit", "finish", "(LTouchBench$Figure;I)V"⟩, 5) := ⟨⟨by decide +kernel, by decide +kernel⟩, List.mem_of_getElem? (i := 114) (by decide +kernel), List.mem_of_getElem? (i := 607) (by decide +kernel), List.mem_of_getElem? (i := 608) (by decide +kernel)⟩
theorem lw_p15 : lw_okq (⟨"TouchBench$CircleFit", "holdPair", "(LTouchBench$Figure;)Z"⟩, 5) := ⟨⟨by decide +kernel, by decide +kernel⟩, List.mem_of_getElem? (i := 114) (by decide +kernel), List.mem_of_getElem? (i := 612) (by decide +kernel), List.mem_of_getElem? (i := 613) (by decide +kernel)⟩
def lw_privs_1 : List (MethodName × Nat) := [(⟨"TouchBench", "found", "(J)J"⟩, 10), (⟨"TouchBench", "isPoint", "(II)Z"⟩, 10), (⟨"TouchBench", "mendPoint", "(LTouchBench$Part;I)Z"⟩, 10), (⟨"TouchBench$FlatFit", "start", "(LTouchBench$Part;)V"⟩, 9), (⟨"TouchBench$FlatFit", "isBetter", "(I)Z"⟩, 9), (⟨"TouchBench$FlatFit", "crossOf", "(II)J"⟩, 9), (⟨"TouchBench$FlatFit", "isBeaten", "(JJ)Z"⟩, 9), (⟨"TouchBench$FlatFit", "keepBest", "(JJII)V"⟩, 9), (⟨"TouchBench$FlatFit", "hold", "(III)V"⟩, 9), (⟨"TouchBench$FlatFit", "finish", "(LTouchBench$Figure;II)V"⟩, 9), (⟨"TouchBench$FlatFit", "trySecondPairs", "(II)V"⟩, 9), (⟨"TouchBench$FlatFit", "crossProduct", "(IIII)V"⟩, 9), (⟨"TouchBench$CircleFit", "holdOnePlace", "(LTouchBench$Figure;)Z"⟩, 5), (⟨"TouchBench$CircleFit", "setCircle", "(IJJJ)V"⟩, 5), (⟨"TouchBench$CircleFit", "finish", "(LTouchBench$Figure;I)V"⟩, 5), (⟨"TouchBench$CircleFit", "holdPair", "(LTouchBench$Figure;)Z"⟩, 5)]
theorem lw_r1 : ∀ q ∈ lw_privs_1, lw_okq q := List.forall_mem_cons.mpr ⟨lw_p0, List.forall_mem_cons.mpr ⟨lw_p1, List.forall_mem_cons.mpr ⟨lw_p2, List.forall_mem_cons.mpr ⟨lw_p3, List.forall_mem_cons.mpr ⟨lw_p4, List.forall_mem_cons.mpr ⟨lw_p5, List.forall_mem_cons.mpr ⟨lw_p6, List.forall_mem_cons.mpr ⟨lw_p7, List.forall_mem_cons.mpr ⟨lw_p8, List.forall_mem_cons.mpr ⟨lw_p9, List.forall_mem_cons.mpr ⟨lw_p10, List.forall_mem_cons.mpr ⟨lw_p11, List.forall_mem_cons.mpr ⟨lw_p12, List.forall_mem_cons.mpr ⟨lw_p13, List.forall_mem_cons.mpr ⟨lw_p14, List.forall_mem_cons.mpr ⟨lw_p15, fun _ h => absurd h List.not_mem_nil⟩⟩⟩⟩⟩⟩⟩⟩⟩⟩⟩⟩⟩⟩⟩⟩
theorem lw_p16 : lw_okq (⟨"TouchBench$CircleFit", "hasNoneOutside", "()Z"⟩, 5) := ⟨⟨by decide +kernel, by decide +kernel⟩, List.mem_of_getElem? (i := 114) (by decide +kernel), List.mem_of_getElem? (i := 617) (by decide +kernel), List.mem_of_getElem? (i := 618) (by decide +kernel)⟩
theorem lw_p17 : lw_okq (⟨"TouchBench$CircleFit", "outside", "(I)J"⟩, 5) := ⟨⟨by decide +kernel, by decide +kernel⟩, List.mem_of_getElem? (i := 114) (by decide +kernel), List.mem_of_getElem? (i := 621) (by decide +kernel), List.mem_of_getElem? (i := 622) (by decide +kernel)⟩
theorem lw_p18 : lw_okq (⟨"TouchBench$CircleFit", "holdThree", "(LTouchBench$Figure;)Z"⟩, 5) := ⟨⟨by decide +kernel, by decide +kernel⟩, List.mem_of_getElem? (i := 114) (by decide +kernel), List.mem_of_getElem? (i := 625) (by decide +kernel), List.mem_of_getElem? (i := 626) (by decide +kernel)⟩
theorem lw_p19 : lw_okq (⟨"TouchBench$CircleFit", "findSharpThree", "()Z"⟩, 5) := ⟨⟨by decide +kernel, by decide +kernel⟩, List.mem_of_getElem? (i := 114) (by decide +kernel), List.mem_of_getElem? (i := 629) (by decide +kernel), List.mem_of_getElem? (i := 630) (by decide +kernel)⟩
theorem lw_p20 : lw_okq (⟨"TouchBench$CircleFit", "isSharp", "(III)Z"⟩, 5) := ⟨⟨by decide +kernel, by decide +kernel⟩, List.mem_of_getElem? (i := 114) (by decide +kernel), List.mem_of_getElem? (i := 633) (by decide +kernel), List.mem_of_getElem? (i := 634) (by decide +kernel)⟩
theorem lw_p21 : lw_okq (⟨"TouchBench$CircleFit", "setCircleOfThree", "(III)V"⟩, 5) := ⟨⟨by decide +kernel, by decide +kernel⟩, List.mem_of_getElem? (i := 114) (by decide +kernel), List.mem_of_getElem? (i := 637) (by decide +kernel), List.mem_of_getElem? (i := 638) (by decide +kernel)⟩
theorem lw_p22 : lw_okq (⟨"TouchBench$CircleFit", "isNewPlace", "(I)Z"⟩, 5) := ⟨⟨by decide +kernel, by decide +kernel⟩, List.mem_of_getElem? (i := 114) (by decide +kernel), List.mem_of_getElem? (i := 642) (by decide +kernel), List.mem_of_getElem? (i := 643) (by decide +kernel)⟩
theorem lw_p23 : lw_okq (⟨"TouchBench$Frame", "setWay", "(IJJJ)V"⟩, 5) := ⟨⟨by decide +kernel, by decide +kernel⟩, List.mem_of_getElem? (i := 138) (by decide +kernel), List.mem_of_getElem? (i := 718) (by decide +kernel), List.mem_of_getElem? (i := 719) (by decide +kernel)⟩
theorem lw_p24 : lw_okq (⟨"TouchBench", "outlineFinding", "(II)J"⟩, 10) := ⟨⟨by decide +kernel, by decide +kernel⟩, List.mem_of_getElem? (i := 18) (by decide +kernel), List.mem_of_getElem? (i := 759) (by decide +kernel), List.mem_of_getElem? (i := 760) (by decide +kernel)⟩
theorem lw_p25 : lw_okq (⟨"TouchBench$Outline", "measure", "(III)V"⟩, 6) := ⟨⟨by decide +kernel, by decide +kernel⟩, List.mem_of_getElem? (i := 162) (by decide +kernel), List.mem_of_getElem? (i := 767) (by decide +kernel), List.mem_of_getElem? (i := 768) (by decide +kernel)⟩
theorem lw_p26 : lw_okq (⟨"TouchBench$Boxes", "isEntered", "(ILTouchBench$Part;II)Z"⟩, 7) := ⟨⟨by decide +kernel, by decide +kernel⟩, List.mem_of_getElem? (i := 202) (by decide +kernel), List.mem_of_getElem? (i := 800) (by decide +kernel), List.mem_of_getElem? (i := 801) (by decide +kernel)⟩
theorem lw_p27 : lw_okq (⟨"TouchBench$Boxes", "narrow", "(III)Z"⟩, 7) := ⟨⟨by decide +kernel, by decide +kernel⟩, List.mem_of_getElem? (i := 202) (by decide +kernel), List.mem_of_getElem? (i := 806) (by decide +kernel), List.mem_of_getElem? (i := 807) (by decide +kernel)⟩
theorem lw_p28 : lw_okq (⟨"TouchBench", "figureCount", "()I"⟩, 10) := ⟨⟨by decide +kernel, by decide +kernel⟩, List.mem_of_getElem? (i := 18) (by decide +kernel), List.mem_of_getElem? (i := 821) (by decide +kernel), List.mem_of_getElem? (i := 822) (by decide +kernel)⟩
theorem lw_p29 : lw_okq (⟨"TouchBenchModel", "finding", "(J)J"⟩, 43) := ⟨⟨by decide +kernel, by decide +kernel⟩, List.mem_of_getElem? (i := 825) (by decide +kernel), List.mem_of_getElem? (i := 976) (by decide +kernel), List.mem_of_getElem? (i := 977) (by decide +kernel)⟩
theorem lw_p30 : lw_okq (⟨"TouchBenchModel", "add", "(IIIIZ)V"⟩, 43) := ⟨⟨by decide +kernel, by decide +kernel⟩, List.mem_of_getElem? (i := 825) (by decide +kernel), List.mem_of_getElem? (i := 981) (by decide +kernel), List.mem_of_getElem? (i := 982) (by decide +kernel)⟩
theorem lw_p31 : lw_okq (⟨"TouchBenchModel", "isPoint", "(II)Z"⟩, 43) := ⟨⟨by decide +kernel, by decide +kernel⟩, List.mem_of_getElem? (i := 825) (by decide +kernel), List.mem_of_getElem? (i := 1000) (by decide +kernel), List.mem_of_getElem? (i := 1001) (by decide +kernel)⟩
def lw_privs_2 : List (MethodName × Nat) := [(⟨"TouchBench$CircleFit", "hasNoneOutside", "()Z"⟩, 5), (⟨"TouchBench$CircleFit", "outside", "(I)J"⟩, 5), (⟨"TouchBench$CircleFit", "holdThree", "(LTouchBench$Figure;)Z"⟩, 5), (⟨"TouchBench$CircleFit", "findSharpThree", "()Z"⟩, 5), (⟨"TouchBench$CircleFit", "isSharp", "(III)Z"⟩, 5), (⟨"TouchBench$CircleFit", "setCircleOfThree", "(III)V"⟩, 5), (⟨"TouchBench$CircleFit", "isNewPlace", "(I)Z"⟩, 5), (⟨"TouchBench$Frame", "setWay", "(IJJJ)V"⟩, 5), (⟨"TouchBench", "outlineFinding", "(II)J"⟩, 10), (⟨"TouchBench$Outline", "measure", "(III)V"⟩, 6), (⟨"TouchBench$Boxes", "isEntered", "(ILTouchBench$Part;II)Z"⟩, 7), (⟨"TouchBench$Boxes", "narrow", "(III)Z"⟩, 7), (⟨"TouchBench", "figureCount", "()I"⟩, 10), (⟨"TouchBenchModel", "finding", "(J)J"⟩, 43), (⟨"TouchBenchModel", "add", "(IIIIZ)V"⟩, 43), (⟨"TouchBenchModel", "isPoint", "(II)Z"⟩, 43)]
theorem lw_r2 : ∀ q ∈ lw_privs_2, lw_okq q := List.forall_mem_cons.mpr ⟨lw_p16, List.forall_mem_cons.mpr ⟨lw_p17, List.forall_mem_cons.mpr ⟨lw_p18, List.forall_mem_cons.mpr ⟨lw_p19, List.forall_mem_cons.mpr ⟨lw_p20, List.forall_mem_cons.mpr ⟨lw_p21, List.forall_mem_cons.mpr ⟨lw_p22, List.forall_mem_cons.mpr ⟨lw_p23, List.forall_mem_cons.mpr ⟨lw_p24, List.forall_mem_cons.mpr ⟨lw_p25, List.forall_mem_cons.mpr ⟨lw_p26, List.forall_mem_cons.mpr ⟨lw_p27, List.forall_mem_cons.mpr ⟨lw_p28, List.forall_mem_cons.mpr ⟨lw_p29, List.forall_mem_cons.mpr ⟨lw_p30, List.forall_mem_cons.mpr ⟨lw_p31, fun _ h => absurd h List.not_mem_nil⟩⟩⟩⟩⟩⟩⟩⟩⟩⟩⟩⟩⟩⟩⟩⟩
theorem lw_p32 : lw_okq (⟨"TouchBenchModel", "offOf", "(II[I)I"⟩, 43) := ⟨⟨by decide +kernel, by decide +kernel⟩, List.mem_of_getElem? (i := 825) (by decide +kernel), List.mem_of_getElem? (i := 1013) (by decide +kernel), List.mem_of_getElem? (i := 1014) (by decide +kernel)⟩
theorem lw_p33 : lw_okq (⟨"TouchBenchModel", "hasPart", "(III)Z"⟩, 43) := ⟨⟨by decide +kernel, by decide +kernel⟩, List.mem_of_getElem? (i := 825) (by decide +kernel), List.mem_of_getElem? (i := 1060) (by decide +kernel), List.mem_of_getElem? (i := 1061) (by decide +kernel)⟩
theorem lw_p34 : lw_okq (⟨"TouchBenchModel", "isGood", "(II)Z"⟩, 43) := ⟨⟨by decide +kernel, by decide +kernel⟩, List.mem_of_getElem? (i := 825) (by decide +kernel), List.mem_of_getElem? (i := 1068) (by decide +kernel), List.mem_of_getElem? (i := 1069) (by decide +kernel)⟩
theorem lw_p35 : lw_okq (⟨"TouchBenchModel", "numberOf", "(II)I"⟩, 43) := ⟨⟨by decide +kernel, by decide +kernel⟩, List.mem_of_getElem? (i := 825) (by decide +kernel), List.mem_of_getElem? (i := 1074) (by decide +kernel), List.mem_of_getElem? (i := 1075) (by decide +kernel)⟩
theorem lw_p36 : lw_okq (⟨"TouchBenchModel", "fitLine", "(II)J"⟩, 43) := ⟨⟨by decide +kernel, by decide +kernel⟩, List.mem_of_getElem? (i := 825) (by decide +kernel), List.mem_of_getElem? (i := 1085) (by decide +kernel), List.mem_of_getElem? (i := 1086) (by decide +kernel)⟩
theorem lw_p37 : lw_okq (⟨"TouchBenchModel", "isHere", "(II)Z"⟩, 43) := ⟨⟨by decide +kernel, by decide +kernel⟩, List.mem_of_getElem? (i := 825) (by decide +kernel), List.mem_of_getElem? (i := 1089) (by decide +kernel), List.mem_of_getElem? (i := 1090) (by decide +kernel)⟩
theorem lw_p38 : lw_okq (⟨"TouchBenchModel", "crosses", "(IIJJJ)V"⟩, 43) := ⟨⟨by decide +kernel, by decide +kernel⟩, List.mem_of_getElem? (i := 825) (by decide +kernel), List.mem_of_getElem? (i := 1093) (by decide +kernel), List.mem_of_getElem? (i := 1094) (by decide +kernel)⟩
theorem lw_p39 : lw_okq (⟨"TouchBenchModel", "keepMiss", "(IJJ)V"⟩, 43) := ⟨⟨by decide +kernel, by decide +kernel⟩, List.mem_of_getElem? (i := 825) (by decide +kernel), List.mem_of_getElem? (i := 1100) (by decide +kernel), List.mem_of_getElem? (i := 1101) (by decide +kernel)⟩
theorem lw_p40 : lw_okq (⟨"TouchBenchModel", "fitPlane", "(II)J"⟩, 43) := ⟨⟨by decide +kernel, by decide +kernel⟩, List.mem_of_getElem? (i := 825) (by decide +kernel), List.mem_of_getElem? (i := 1111) (by decide +kernel), List.mem_of_getElem? (i := 1112) (by decide +kernel)⟩
theorem lw_p41 : lw_okq (⟨"TouchBenchModel", "tellNormal", "(IIIII)V"⟩, 43) := ⟨⟨by decide +kernel, by decide +kernel⟩, List.mem_of_getElem? (i := 825) (by decide +kernel), List.mem_of_getElem? (i := 1115) (by decide +kernel), List.mem_of_getElem? (i := 1116) (by decide +kernel)⟩
theorem lw_p42 : lw_okq (⟨"TouchBenchModel", "squareOf", "()J"⟩, 43) := ⟨⟨by decide +kernel, by decide +kernel⟩, List.mem_of_getElem? (i := 825) (by decide +kernel), List.mem_of_getElem? (i := 1119) (by decide +kernel), List.mem_of_getElem? (i := 1120) (by decide +kernel)⟩
theorem lw_p43 : lw_okq (⟨"TouchBenchModel", "fitCircle", "(II)J"⟩, 43) := ⟨⟨by decide +kernel, by decide +kernel⟩, List.mem_of_getElem? (i := 825) (by decide +kernel), List.mem_of_getElem? (i := 1124) (by decide +kernel), List.mem_of_getElem? (i := 1125) (by decide +kernel)⟩
theorem lw_p44 : lw_okq (⟨"TouchBenchModel", "keepMiddle", "(IJJJ)V"⟩, 43) := ⟨⟨by decide +kernel, by decide +kernel⟩, List.mem_of_getElem? (i := 825) (by decide +kernel), List.mem_of_getElem? (i := 1128) (by decide +kernel), List.mem_of_getElem? (i := 1129) (by decide +kernel)⟩
theorem lw_p45 : lw_okq (⟨"TouchBenchModel", "isRoundOf", "(III)Z"⟩, 43) := ⟨⟨by decide +kernel, by decide +kernel⟩, List.mem_of_getElem? (i := 825) (by decide +kernel), List.mem_of_getElem? (i := 1132) (by decide +kernel), List.mem_of_getElem? (i := 1133) (by decide +kernel)⟩
theorem lw_p46 : lw_okq (⟨"TouchBenchModel", "circleOfThree", "(II)J"⟩, 43) := ⟨⟨by decide +kernel, by decide +kernel⟩, List.mem_of_getElem? (i := 825) (by decide +kernel), List.mem_of_getElem? (i := 1137) (by decide +kernel), List.mem_of_getElem? (i := 1138) (by decide +kernel)⟩
theorem lw_p47 : lw_okq (⟨"TouchBenchModel", "tellMiddle", "(IIII)V"⟩, 43) := ⟨⟨by decide +kernel, by decide +kernel⟩, List.mem_of_getElem? (i := 825) (by decide +kernel), List.mem_of_getElem? (i := 1141) (by decide +kernel), List.mem_of_getElem? (i := 1142) (by decide +kernel)⟩
def lw_privs_3 : List (MethodName × Nat) := [(⟨"TouchBenchModel", "offOf", "(II[I)I"⟩, 43), (⟨"TouchBenchModel", "hasPart", "(III)Z"⟩, 43), (⟨"TouchBenchModel", "isGood", "(II)Z"⟩, 43), (⟨"TouchBenchModel", "numberOf", "(II)I"⟩, 43), (⟨"TouchBenchModel", "fitLine", "(II)J"⟩, 43), (⟨"TouchBenchModel", "isHere", "(II)Z"⟩, 43), (⟨"TouchBenchModel", "crosses", "(IIJJJ)V"⟩, 43), (⟨"TouchBenchModel", "keepMiss", "(IJJ)V"⟩, 43), (⟨"TouchBenchModel", "fitPlane", "(II)J"⟩, 43), (⟨"TouchBenchModel", "tellNormal", "(IIIII)V"⟩, 43), (⟨"TouchBenchModel", "squareOf", "()J"⟩, 43), (⟨"TouchBenchModel", "fitCircle", "(II)J"⟩, 43), (⟨"TouchBenchModel", "keepMiddle", "(IJJJ)V"⟩, 43), (⟨"TouchBenchModel", "isRoundOf", "(III)Z"⟩, 43), (⟨"TouchBenchModel", "circleOfThree", "(II)J"⟩, 43), (⟨"TouchBenchModel", "tellMiddle", "(IIII)V"⟩, 43)]
theorem lw_r3 : ∀ q ∈ lw_privs_3, lw_okq q := List.forall_mem_cons.mpr ⟨lw_p32, List.forall_mem_cons.mpr ⟨lw_p33, List.forall_mem_cons.mpr ⟨lw_p34, List.forall_mem_cons.mpr ⟨lw_p35, List.forall_mem_cons.mpr ⟨lw_p36, List.forall_mem_cons.mpr ⟨lw_p37, List.forall_mem_cons.mpr ⟨lw_p38, List.forall_mem_cons.mpr ⟨lw_p39, List.forall_mem_cons.mpr ⟨lw_p40, List.forall_mem_cons.mpr ⟨lw_p41, List.forall_mem_cons.mpr ⟨lw_p42, List.forall_mem_cons.mpr ⟨lw_p43, List.forall_mem_cons.mpr ⟨lw_p44, List.forall_mem_cons.mpr ⟨lw_p45, List.forall_mem_cons.mpr ⟨lw_p46, List.forall_mem_cons.mpr ⟨lw_p47, fun _ h => absurd h List.not_mem_nil⟩⟩⟩⟩⟩⟩⟩⟩⟩⟩⟩⟩⟩⟩⟩⟩
theorem lw_p48 : lw_okq (⟨"TouchBenchModel", "isSharp", "(IIII)Z"⟩, 43) := ⟨⟨by decide +kernel, by decide +kernel⟩, List.mem_of_getElem? (i := 825) (by decide +kernel), List.mem_of_getElem? (i := 1145) (by decide +kernel), List.mem_of_getElem? (i := 1146) (by decide +kernel)⟩
theorem lw_p49 : lw_okq (⟨"TouchBenchModel", "hasAll", "(II)Z"⟩, 43) := ⟨⟨by decide +kernel, by decide +kernel⟩, List.mem_of_getElem? (i := 825) (by decide +kernel), List.mem_of_getElem? (i := 1149) (by decide +kernel), List.mem_of_getElem? (i := 1150) (by decide +kernel)⟩
theorem lw_p50 : lw_okq (⟨"TouchBenchModel", "outside", "(III)J"⟩, 43) := ⟨⟨by decide +kernel, by decide +kernel⟩, List.mem_of_getElem? (i := 825) (by decide +kernel), List.mem_of_getElem? (i := 1153) (by decide +kernel), List.mem_of_getElem? (i := 1154) (by decide +kernel)⟩
theorem lw_p51 : lw_okq (⟨"TouchBenchModel", "isFlat", "(I)Z"⟩, 43) := ⟨⟨by decide +kernel, by decide +kernel⟩, List.mem_of_getElem? (i := 825) (by decide +kernel), List.mem_of_getElem? (i := 1166) (by decide +kernel), List.mem_of_getElem? (i := 1167) (by decide +kernel)⟩
theorem lw_p52 : lw_okq (⟨"TouchBenchModel", "levelOf", "(I)I"⟩, 43) := ⟨⟨by decide +kernel, by decide +kernel⟩, List.mem_of_getElem? (i := 825) (by decide +kernel), List.mem_of_getElem? (i := 1190) (by decide +kernel), List.mem_of_getElem? (i := 1191) (by decide +kernel)⟩
theorem lw_p53 : lw_okq (⟨"TouchBenchModel", "askNear", "(II)J"⟩, 43) := ⟨⟨by decide +kernel, by decide +kernel⟩, List.mem_of_getElem? (i := 825) (by decide +kernel), List.mem_of_getElem? (i := 1226) (by decide +kernel), List.mem_of_getElem? (i := 1227) (by decide +kernel)⟩
theorem lw_p54 : lw_okq (⟨"TouchBenchModel", "nearestOf", "(I)I"⟩, 43) := ⟨⟨by decide +kernel, by decide +kernel⟩, List.mem_of_getElem? (i := 825) (by decide +kernel), List.mem_of_getElem? (i := 1230) (by decide +kernel), List.mem_of_getElem? (i := 1231) (by decide +kernel)⟩
theorem lw_p55 : lw_okq (⟨"TouchBenchModel", "tellFar", "(II)V"⟩, 43) := ⟨⟨by decide +kernel, by decide +kernel⟩, List.mem_of_getElem? (i := 825) (by decide +kernel), List.mem_of_getElem? (i := 1234) (by decide +kernel), List.mem_of_getElem? (i := 1235) (by decide +kernel)⟩
theorem lw_p56 : lw_okq (⟨"TouchBenchModel", "intoOf", "(II)I"⟩, 43) := ⟨⟨by decide +kernel, by decide +kernel⟩, List.mem_of_getElem? (i := 825) (by decide +kernel), List.mem_of_getElem? (i := 1254) (by decide +kernel), List.mem_of_getElem? (i := 1255) (by decide +kernel)⟩
theorem lw_p57 : lw_okq (⟨"TouchBenchModel", "goesInto", "(III)Z"⟩, 43) := ⟨⟨by decide +kernel, by decide +kernel⟩, List.mem_of_getElem? (i := 825) (by decide +kernel), List.mem_of_getElem? (i := 1258) (by decide +kernel), List.mem_of_getElem? (i := 1259) (by decide +kernel)⟩
theorem lw_p58 : lw_okq (⟨"TouchBenchModel", "cut", "(IIII)Z"⟩, 43) := ⟨⟨by decide +kernel, by decide +kernel⟩, List.mem_of_getElem? (i := 825) (by decide +kernel), List.mem_of_getElem? (i := 1264) (by decide +kernel), List.mem_of_getElem? (i := 1265) (by decide +kernel)⟩
def lw_privs_4 : List (MethodName × Nat) := [(⟨"TouchBenchModel", "isSharp", "(IIII)Z"⟩, 43), (⟨"TouchBenchModel", "hasAll", "(II)Z"⟩, 43), (⟨"TouchBenchModel", "outside", "(III)J"⟩, 43), (⟨"TouchBenchModel", "isFlat", "(I)Z"⟩, 43), (⟨"TouchBenchModel", "levelOf", "(I)I"⟩, 43), (⟨"TouchBenchModel", "askNear", "(II)J"⟩, 43), (⟨"TouchBenchModel", "nearestOf", "(I)I"⟩, 43), (⟨"TouchBenchModel", "tellFar", "(II)V"⟩, 43), (⟨"TouchBenchModel", "intoOf", "(II)I"⟩, 43), (⟨"TouchBenchModel", "goesInto", "(III)Z"⟩, 43), (⟨"TouchBenchModel", "cut", "(IIII)Z"⟩, 43)]
theorem lw_r4 : ∀ q ∈ lw_privs_4, lw_okq q := List.forall_mem_cons.mpr ⟨lw_p48, List.forall_mem_cons.mpr ⟨lw_p49, List.forall_mem_cons.mpr ⟨lw_p50, List.forall_mem_cons.mpr ⟨lw_p51, List.forall_mem_cons.mpr ⟨lw_p52, List.forall_mem_cons.mpr ⟨lw_p53, List.forall_mem_cons.mpr ⟨lw_p54, List.forall_mem_cons.mpr ⟨lw_p55, List.forall_mem_cons.mpr ⟨lw_p56, List.forall_mem_cons.mpr ⟨lw_p57, List.forall_mem_cons.mpr ⟨lw_p58, fun _ h => absurd h List.not_mem_nil⟩⟩⟩⟩⟩⟩⟩⟩⟩⟩⟩
def lw_privs : List (MethodName × Nat) := lw_privs_1 ++ (lw_privs_2 ++ (lw_privs_3 ++ (lw_privs_4)))
def lw_tbl : List Cond := k2_sels lw_privs ++ tables_1
theorem lw_privs_ok : ∀ q ∈ lw_privs, lw_okq q := by
  show ∀ q ∈ lw_privs_1 ++ (lw_privs_2 ++ (lw_privs_3 ++ (lw_privs_4))), lw_okq q
  exact List.forall_mem_append.mpr ⟨lw_r1, List.forall_mem_append.mpr ⟨lw_r2, List.forall_mem_append.mpr ⟨lw_r3, lw_r4⟩⟩⟩
/-- the streams that the claim lets the run draw from -/
abbrev lw_cs : List Choice := [Jvm.Choice.named "NaN.copy"]

def RX0 : String := "TouchBench$Boxes"
def TX0 : u_T := fun k => match k with
  | 0 => ("TouchBench$Boxes", "count", "I", false)
  | 1 => ("TouchBench$Boxes", "least", "[I", true)
  | 2 => ("TouchBench$Boxes", "most", "[I", true)
  | 3 => ("TouchBench$Boxes", "enterAbove", "J", false)
  | 4 => ("TouchBench$Boxes", "enterBelow", "J", false)
  | 5 => ("TouchBench$Boxes", "leaveAbove", "J", false)
  | _ => ("TouchBench$Boxes", "leaveBelow", "J", false)
def tyX0 : Nat → FieldType := fun k => match k with
  | 0 => .int
  | 1 => .array .int
  | 2 => .array .int
  | 3 => .long
  | 4 => .long
  | 5 => .long
  | _ => .long
theorem nmX0 : ∀ a, a < 7 → ∀ b, b < 7 → a ≠ b → (TX0 a).2.1 ≠ (TX0 b).2.1 := by decide +kernel
theorem tyX0_ok : ∀ k, k < 7 → parseFieldDescriptor (TX0 k).2.2.1 = some (tyX0 k) := by decide +kernel
def RX1 : String := "TouchBench$CircleFit"
def TX1 : u_T := fun k => match k with
  | 0 => ("TouchBench$CircleFit", "points", "LTouchBench$Touched;", true)
  | 1 => ("TouchBench$CircleFit", "anchor", "I", false)
  | 2 => ("TouchBench$CircleFit", "middleX", "J", false)
  | 3 => ("TouchBench$CircleFit", "middleY", "J", false)
  | _ => ("TouchBench$CircleFit", "scale", "J", false)
def tyX1 : Nat → FieldType := fun k => match k with
  | 0 => .object "TouchBench$Touched"
  | 1 => .int
  | 2 => .long
  | 3 => .long
  | _ => .long
theorem nmX1 : ∀ a, a < 5 → ∀ b, b < 5 → a ≠ b → (TX1 a).2.1 ≠ (TX1 b).2.1 := by decide +kernel
theorem tyX1_ok : ∀ k, k < 5 → parseFieldDescriptor (TX1 k).2.2.1 = some (tyX1 k) := by decide +kernel
def RX2 : String := "TouchBench$Figure"
def TX2 : u_T := fun k => match k with
  | 0 => ("TouchBench$Figure", "holders", "[I", true)
  | 1 => ("TouchBench$Figure", "direction", "[J", true)
  | 2 => ("TouchBench$Figure", "missSquare", "LTouchBench$Fraction;", true)
  | 3 => ("TouchBench$Figure", "middleX", "LTouchBench$Fraction;", true)
  | 4 => ("TouchBench$Figure", "middleY", "LTouchBench$Fraction;", true)
  | 5 => ("TouchBench$Figure", "kind", "I", false)
  | _ => ("TouchBench$Figure", "heldCount", "I", false)
def tyX2 : Nat → FieldType := fun k => match k with
  | 0 => .array .int
  | 1 => .array .long
  | 2 => .object "TouchBench$Fraction"
  | 3 => .object "TouchBench$Fraction"
  | 4 => .object "TouchBench$Fraction"
  | 5 => .int
  | _ => .int
theorem nmX2 : ∀ a, a < 7 → ∀ b, b < 7 → a ≠ b → (TX2 a).2.1 ≠ (TX2 b).2.1 := by decide +kernel
theorem tyX2_ok : ∀ k, k < 7 → parseFieldDescriptor (TX2 k).2.2.1 = some (tyX2 k) := by decide +kernel
def RX3 : String := "TouchBench$FlatFit"
def TX3 : u_T := fun k => match k with
  | 0 => ("TouchBench$FlatFit", "points", "LTouchBench$Touched;", true)
  | 1 => ("TouchBench$FlatFit", "normal", "[J", true)
  | 2 => ("TouchBench$FlatFit", "best", "[J", true)
  | 3 => ("TouchBench$FlatFit", "bestHeld", "[I", true)
  | 4 => ("TouchBench$FlatFit", "any", "Z", false)
  | 5 => ("TouchBench$FlatFit", "bestSquare", "J", false)
  | 6 => ("TouchBench$FlatFit", "bestLength", "J", false)
  | 7 => ("TouchBench$FlatFit", "bestHigh", "I", false)
  | _ => ("TouchBench$FlatFit", "bestLow", "I", false)
def tyX3 : Nat → FieldType := fun k => match k with
  | 0 => .object "TouchBench$Touched"
  | 1 => .array .long
  | 2 => .array .long
  | 3 => .array .int
  | 4 => .boolean
  | 5 => .long
  | 6 => .long
  | 7 => .int
  | _ => .int
theorem nmX3 : ∀ a, a < 9 → ∀ b, b < 9 → a ≠ b → (TX3 a).2.1 ≠ (TX3 b).2.1 := by decide +kernel
theorem tyX3_ok : ∀ k, k < 9 → parseFieldDescriptor (TX3 k).2.2.1 = some (tyX3 k) := by decide +kernel
def RX4 : String := "TouchBench$Fraction"
def TX4 : u_T := fun k => match k with
  | 0 => ("TouchBench$Fraction", "above", "J", false)
  | _ => ("TouchBench$Fraction", "below", "J", false)
def tyX4 : Nat → FieldType := fun k => match k with
  | 0 => .long
  | _ => .long
theorem nmX4 : ∀ a, a < 2 → ∀ b, b < 2 → a ≠ b → (TX4 a).2.1 ≠ (TX4 b).2.1 := by decide +kernel
theorem tyX4_ok : ∀ k, k < 2 → parseFieldDescriptor (TX4 k).2.2.1 = some (tyX4 k) := by decide +kernel
def RX5 : String := "TouchBench$Frame"
def TX5 : u_T := fun k => match k with
  | 0 => ("TouchBench$Frame", "ways", "[J", true)
  | 1 => ("TouchBench$Frame", "laid", "Z", false)
  | 2 => ("TouchBench$Frame", "beginX", "I", false)
  | 3 => ("TouchBench$Frame", "beginY", "I", false)
  | _ => ("TouchBench$Frame", "beginZ", "I", false)
def tyX5 : Nat → FieldType := fun k => match k with
  | 0 => .array .long
  | 1 => .boolean
  | 2 => .int
  | 3 => .int
  | _ => .int
theorem nmX5 : ∀ a, a < 5 → ∀ b, b < 5 → a ≠ b → (TX5 a).2.1 ≠ (TX5 b).2.1 := by decide +kernel
theorem tyX5_ok : ∀ k, k < 5 → parseFieldDescriptor (TX5 k).2.2.1 = some (tyX5 k) := by decide +kernel
def RX6 : String := "TouchBench$Grid"
def TX6 : u_T := fun k => match k with
  | 0 => ("TouchBench$Grid", "ofX", "[I", true)
  | _ => ("TouchBench$Grid", "ofY", "[I", true)
def tyX6 : Nat → FieldType := fun k => match k with
  | 0 => .array .int
  | _ => .array .int
theorem nmX6 : ∀ a, a < 2 → ∀ b, b < 2 → a ≠ b → (TX6 a).2.1 ≠ (TX6 b).2.1 := by decide +kernel
theorem tyX6_ok : ∀ k, k < 2 → parseFieldDescriptor (TX6 k).2.2.1 = some (tyX6 k) := by decide +kernel
def RX7 : String := "TouchBench$Outline"
def TX7 : u_T := fun k => match k with
  | 0 => ("TouchBench$Outline", "least", "LTouchBench$Fraction;", true)
  | 1 => ("TouchBench$Outline", "count", "I", false)
  | 2 => ("TouchBench$Outline", "x", "[I", true)
  | 3 => ("TouchBench$Outline", "y", "[I", true)
  | 4 => ("TouchBench$Outline", "squareAbove", "J", false)
  | _ => ("TouchBench$Outline", "squareBelow", "J", false)
def tyX7 : Nat → FieldType := fun k => match k with
  | 0 => .object "TouchBench$Fraction"
  | 1 => .int
  | 2 => .array .int
  | 3 => .array .int
  | 4 => .long
  | _ => .long
theorem nmX7 : ∀ a, a < 6 → ∀ b, b < 6 → a ≠ b → (TX7 a).2.1 ≠ (TX7 b).2.1 := by decide +kernel
theorem tyX7_ok : ∀ k, k < 6 → parseFieldDescriptor (TX7 k).2.2.1 = some (tyX7 k) := by decide +kernel
def RX8 : String := "TouchBench$Part"
def TX8 : u_T := fun k => match k with
  | 0 => ("TouchBench$Part", "x", "[I", true)
  | 1 => ("TouchBench$Part", "y", "[I", true)
  | 2 => ("TouchBench$Part", "z", "[I", true)
  | 3 => ("TouchBench$Part", "missed", "[Z", true)
  | _ => ("TouchBench$Part", "count", "I", false)
def tyX8 : Nat → FieldType := fun k => match k with
  | 0 => .array .int
  | 1 => .array .int
  | 2 => .array .int
  | 3 => .array .boolean
  | _ => .int
theorem nmX8 : ∀ a, a < 5 → ∀ b, b < 5 → a ≠ b → (TX8 a).2.1 ≠ (TX8 b).2.1 := by decide +kernel
theorem tyX8_ok : ∀ k, k < 5 → parseFieldDescriptor (TX8 k).2.2.1 = some (tyX8 k) := by decide +kernel
def RX9 : String := "TouchBench$Sheet"
def TX9 : u_T := fun k => match k with
  | 0 => ("TouchBench$Sheet", "numbers", "[I", true)
  | 1 => ("TouchBench$Sheet", "kind", "I", false)
  | _ => ("TouchBench$Sheet", "length", "I", false)
def tyX9 : Nat → FieldType := fun k => match k with
  | 0 => .array .int
  | 1 => .int
  | _ => .int
theorem nmX9 : ∀ a, a < 3 → ∀ b, b < 3 → a ≠ b → (TX9 a).2.1 ≠ (TX9 b).2.1 := by decide +kernel
theorem tyX9_ok : ∀ k, k < 3 → parseFieldDescriptor (TX9 k).2.2.1 = some (tyX9 k) := by decide +kernel
def RX10 : String := "TouchBench$Touched"
def TX10 : u_T := fun k => match k with
  | 0 => ("TouchBench$Touched", "x", "[I", true)
  | 1 => ("TouchBench$Touched", "y", "[I", true)
  | 2 => ("TouchBench$Touched", "z", "[I", true)
  | 3 => ("TouchBench$Touched", "number", "[I", true)
  | _ => ("TouchBench$Touched", "count", "I", false)
def tyX10 : Nat → FieldType := fun k => match k with
  | 0 => .array .int
  | 1 => .array .int
  | 2 => .array .int
  | 3 => .array .int
  | _ => .int
theorem nmX10 : ∀ a, a < 5 → ∀ b, b < 5 → a ≠ b → (TX10 a).2.1 ≠ (TX10 b).2.1 := by decide +kernel
theorem tyX10_ok : ∀ k, k < 5 → parseFieldDescriptor (TX10 k).2.2.1 = some (tyX10 k) := by decide +kernel
def RX11 : String := "TouchBench"
def TX11 : u_T := fun k => match k with
  | 0 => ("TouchBench", "parts", "[LTouchBench$Part;", true)
  | 1 => ("TouchBench", "sheets", "[LTouchBench$Sheet;", true)
  | 2 => ("TouchBench", "figures", "[LTouchBench$Figure;", true)
  | 3 => ("TouchBench", "arm", "LTouchBench$Grid;", true)
  | 4 => ("TouchBench", "flatFit", "LTouchBench$FlatFit;", true)
  | 5 => ("TouchBench", "circleFit", "LTouchBench$CircleFit;", true)
  | 6 => ("TouchBench", "theFrame", "LTouchBench$Frame;", true)
  | 7 => ("TouchBench", "outline", "LTouchBench$Outline;", true)
  | 8 => ("TouchBench", "boxes", "LTouchBench$Boxes;", true)
  | _ => ("TouchBench", "findings", "J", false)
def tyX11 : Nat → FieldType := fun k => match k with
  | 0 => .array (.object "TouchBench$Part")
  | 1 => .array (.object "TouchBench$Sheet")
  | 2 => .array (.object "TouchBench$Figure")
  | 3 => .object "TouchBench$Grid"
  | 4 => .object "TouchBench$FlatFit"
  | 5 => .object "TouchBench$CircleFit"
  | 6 => .object "TouchBench$Frame"
  | 7 => .object "TouchBench$Outline"
  | 8 => .object "TouchBench$Boxes"
  | _ => .long
theorem nmX11 : ∀ a, a < 10 → ∀ b, b < 10 → a ≠ b → (TX11 a).2.1 ≠ (TX11 b).2.1 := by decide +kernel
theorem tyX11_ok : ∀ k, k < 10 → parseFieldDescriptor (TX11 k).2.2.1 = some (tyX11 k) := by decide +kernel
def RX12 : String := "TouchBenchModel"
def TX12 : u_T := fun k => match k with
  | 0 => ("TouchBenchModel", "many", "[I", true)
  | 1 => ("TouchBenchModel", "px", "[I", true)
  | 2 => ("TouchBenchModel", "py", "[I", true)
  | 3 => ("TouchBenchModel", "pz", "[I", true)
  | 4 => ("TouchBenchModel", "gone", "[Z", true)
  | 5 => ("TouchBenchModel", "gridX", "[I", true)
  | 6 => ("TouchBenchModel", "gridY", "[I", true)
  | 7 => ("TouchBenchModel", "kinds", "[I", true)
  | 8 => ("TouchBenchModel", "heldMany", "[I", true)
  | 9 => ("TouchBenchModel", "held", "[I", true)
  | 10 => ("TouchBenchModel", "above", "[J", true)
  | 11 => ("TouchBenchModel", "under", "[J", true)
  | 12 => ("TouchBenchModel", "ways", "[J", true)
  | 13 => ("TouchBenchModel", "middles", "[J", true)
  | 14 => ("TouchBenchModel", "hasFrame", "Z", false)
  | 15 => ("TouchBenchModel", "axes", "[J", true)
  | 16 => ("TouchBenchModel", "beginning", "[I", true)
  | 17 => ("TouchBenchModel", "corners", "I", false)
  | 18 => ("TouchBenchModel", "cx", "[I", true)
  | 19 => ("TouchBenchModel", "cy", "[I", true)
  | 20 => ("TouchBenchModel", "boxes", "I", false)
  | 21 => ("TouchBenchModel", "box", "[I", true)
  | 22 => ("TouchBenchModel", "sheetKind", "[I", true)
  | 23 => ("TouchBenchModel", "sheetSize", "[I", true)
  | 24 => ("TouchBenchModel", "sheet", "[I", true)
  | 25 => ("TouchBenchModel", "doubles", "[D", true)
  | 26 => ("TouchBenchModel", "found", "J", false)
  | 27 => ("TouchBenchModel", "carried", "[I", true)
  | 28 => ("TouchBenchModel", "carriedDoubles", "[D", true)
  | 29 => ("TouchBenchModel", "high", "J", false)
  | 30 => ("TouchBenchModel", "low", "J", false)
  | 31 => ("TouchBenchModel", "highAt", "I", false)
  | 32 => ("TouchBenchModel", "lowAt", "I", false)
  | 33 => ("TouchBenchModel", "normal", "[J", true)
  | 34 => ("TouchBenchModel", "midX", "J", false)
  | 35 => ("TouchBenchModel", "midY", "J", false)
  | 36 => ("TouchBenchModel", "midUnder", "J", false)
  | 37 => ("TouchBenchModel", "farAbove", "J", false)
  | 38 => ("TouchBenchModel", "farUnder", "J", false)
  | 39 => ("TouchBenchModel", "fromAbove", "J", false)
  | 40 => ("TouchBenchModel", "fromUnder", "J", false)
  | 41 => ("TouchBenchModel", "toAbove", "J", false)
  | _ => ("TouchBenchModel", "toUnder", "J", false)
def tyX12 : Nat → FieldType := fun k => match k with
  | 0 => .array .int
  | 1 => .array .int
  | 2 => .array .int
  | 3 => .array .int
  | 4 => .array .boolean
  | 5 => .array .int
  | 6 => .array .int
  | 7 => .array .int
  | 8 => .array .int
  | 9 => .array .int
  | 10 => .array .long
  | 11 => .array .long
  | 12 => .array .long
  | 13 => .array .long
  | 14 => .boolean
  | 15 => .array .long
  | 16 => .array .int
  | 17 => .int
  | 18 => .array .int
  | 19 => .array .int
  | 20 => .int
  | 21 => .array .int
  | 22 => .array .int
  | 23 => .array .int
  | 24 => .array .int
  | 25 => .array .double
  | 26 => .long
  | 27 => .array .int
  | 28 => .array .double
  | 29 => .long
  | 30 => .long
  | 31 => .int
  | 32 => .int
  | 33 => .array .long
  | 34 => .long
  | 35 => .long
  | 36 => .long
  | 37 => .long
  | 38 => .long
  | 39 => .long
  | 40 => .long
  | 41 => .long
  | _ => .long
theorem nmX12 : ∀ a, a < 43 → ∀ b, b < 43 → a ≠ b → (TX12 a).2.1 ≠ (TX12 b).2.1 := by decide +kernel
theorem tyX12_ok : ∀ k, k < 43 → parseFieldDescriptor (TX12 k).2.2.1 = some (tyX12 k) := by decide +kernel
abbrev vwCl : List vw_C := [(RX0, TX0, 7), (RX1, TX1, 5), (RX2, TX2, 7), (RX3, TX3, 9), (RX4, TX4, 2), (RX5, TX5, 5), (RX6, TX6, 2), (RX7, TX7, 6), (RX8, TX8, 5), (RX9, TX9, 3), (RX10, TX10, 5), (RX11, TX11, 10), (RX12, TX12, 43)]
/-- the words of the tables that every method may be handed -/
def eg_tbl : List Cond := lw_tbl.filter goodWord
theorem eg_tbl_lw {w : Cond} (h : w ∈ eg_tbl) : w ∈ lw_tbl := (List.mem_filter.mp h).1
theorem eg_in (ws : List Cond) (ps : List Nat) (hp : ws = ps.filterMap (fun i => lw_tbl[i]?)) (hg : ws.all goodWord = true) : ∀ w ∈ ws, w ∈ eg_tbl := by
  intro w hw
  have h1 := List.all_eq_true.mp hg w hw
  rw [hp] at hw
  obtain ⟨i, -, hi⟩ := List.mem_filterMap.mp hw
  exact List.mem_filter.mpr ⟨List.mem_of_getElem? hi, h1⟩
theorem eg_inl (ws : List Cond) (ps : List Nat) (hp : ws = ps.filterMap (fun i => lw_tbl[i]?)) : ∀ w ∈ ws, w ∈ lw_tbl := by
  intro w hw
  rw [hp] at hw
  obtain ⟨i, -, hi⟩ := List.mem_filterMap.mp hw
  exact List.mem_of_getElem? hi
theorem eg_good {d : Cond} {ws : List Cond} (hd : d ∈ eg_tbl) : GoodIn eg_tbl (d :: eg_tbl) := by
  intro w hw
  have hm : w ∈ eg_tbl := (List.mem_cons.mp hw).elim (fun e => e ▸ hd) id
  exact ⟨hm, good_of_word (List.mem_filter.mp hm).2⟩
theorem inX0 : ∀ w ∈ u_ws RX0 TX0 7, w ∈ eg_tbl := eg_in _ [274, 276, 278, 280, 282, 284, 286] (by decide +kernel) (by decide +kernel)
theorem inX1 : ∀ w ∈ u_ws RX1 TX1 5, w ∈ eg_tbl := eg_in _ [185, 187, 189, 191, 193] (by decide +kernel) (by decide +kernel)
theorem inX2 : ∀ w ∈ u_ws RX2 TX2 7, w ∈ eg_tbl := eg_in _ [375, 377, 379, 381, 383, 385, 387] (by decide +kernel) (by decide +kernel)
theorem inX3 : ∀ w ∈ u_ws RX3 TX3 9, w ∈ eg_tbl := eg_in _ [152, 154, 156, 158, 160, 162, 164, 166, 168] (by decide +kernel) (by decide +kernel)
theorem inX4 : ∀ w ∈ u_ws RX4 TX4 2, w ∈ eg_tbl := eg_in _ [234, 236] (by decide +kernel) (by decide +kernel)
theorem inX5 : ∀ w ∈ u_ws RX5 TX5 5, w ∈ eg_tbl := eg_in _ [209, 211, 213, 215, 217] (by decide +kernel) (by decide +kernel)
theorem inX6 : ∀ w ∈ u_ws RX6 TX6 2, w ∈ eg_tbl := eg_in _ [100, 102] (by decide +kernel) (by decide +kernel)
theorem inX7 : ∀ w ∈ u_ws RX7 TX7 6, w ∈ eg_tbl := eg_in _ [247, 249, 251, 253, 255, 257] (by decide +kernel) (by decide +kernel)
theorem inX8 : ∀ w ∈ u_ws RX8 TX8 5, w ∈ eg_tbl := eg_in _ [315, 317, 319, 321, 323] (by decide +kernel) (by decide +kernel)
theorem inX9 : ∀ w ∈ u_ws RX9 TX9 3, w ∈ eg_tbl := eg_in _ [338, 340, 342] (by decide +kernel) (by decide +kernel)
theorem inX10 : ∀ w ∈ u_ws RX10 TX10 5, w ∈ eg_tbl := eg_in _ [132, 134, 136, 138, 140] (by decide +kernel) (by decide +kernel)
theorem inX11 : ∀ w ∈ u_ws RX11 TX11 10, w ∈ eg_tbl := eg_in _ [400, 402, 404, 406, 408, 410, 412, 414, 416, 418] (by decide +kernel) (by decide +kernel)
theorem inX12 : ∀ w ∈ u_ws RX12 TX12 43, w ∈ eg_tbl := eg_in _ [932, 934, 936, 938, 940, 942, 944, 946, 948, 950, 952, 954, 956, 958, 960, 962, 964, 966, 968, 970, 972, 974, 976, 978, 980, 982, 984, 986, 988, 990, 992, 994, 996, 998, 1000, 1002, 1004, 1006, 1008, 1010, 1012, 1014, 1016] (by decide +kernel) (by decide +kernel)
