section
-- ===== PART A: goes FIRST, ahead of the names: the tables' words, and 'selects' of the private methods out of them =====
/-- a private method of a class that the tables say can be made, by its rows of tables_1 -/
def lw_okq (q : MethodName × Nat) : Prop := (q.1.cls ≠ "java/lang/invoke/MethodHandle" ∧ q.1.cls ≠ "java/lang/invoke/VarHandle") ∧ Cond.instantiable q.1.cls q.2 ∈ tables_1 ∧ Cond.privateMethod q.1 ∈ tables_1 ∧ Cond.instanceMethod q.1 ∈ tables_1
theorem lw_p0 : lw_okq (⟨"MarkOrder$Reader", "step", "()V"⟩, 9) := ⟨⟨by decide +kernel, by decide +kernel⟩, List.mem_of_getElem? (i := 21) (by decide +kernel), List.mem_of_getElem? (i := 258) (by decide +kernel), List.mem_of_getElem? (i := 259) (by decide +kernel)⟩
theorem lw_p1 : lw_okq (⟨"MarkOrder$Reader", "takeLetters", "()V"⟩, 9) := ⟨⟨by decide +kernel, by decide +kernel⟩, List.mem_of_getElem? (i := 21) (by decide +kernel), List.mem_of_getElem? (i := 270) (by decide +kernel), List.mem_of_getElem? (i := 271) (by decide +kernel)⟩
theorem lw_p2 : lw_okq (⟨"MarkOrder$Reader", "takeNumber", "()V"⟩, 9) := ⟨⟨by decide +kernel, by decide +kernel⟩, List.mem_of_getElem? (i := 21) (by decide +kernel), List.mem_of_getElem? (i := 277) (by decide +kernel), List.mem_of_getElem? (i := 278) (by decide +kernel)⟩
theorem lw_p3 : lw_okq (⟨"MarkOrder$Reader", "readCode", "(LMarkOrder$Codes;)Z"⟩, 9) := ⟨⟨by decide +kernel, by decide +kernel⟩, List.mem_of_getElem? (i := 21) (by decide +kernel), List.mem_of_getElem? (i := 284) (by decide +kernel), List.mem_of_getElem? (i := 285) (by decide +kernel)⟩
theorem lw_p4 : lw_okq (⟨"MarkOrder$Reader", "readPlain", "()Z"⟩, 9) := ⟨⟨by decide +kernel, by decide +kernel⟩, List.mem_of_getElem? (i := 21) (by decide +kernel), List.mem_of_getElem? (i := 292) (by decide +kernel), List.mem_of_getElem? (i := 293) (by decide +kernel)⟩
theorem lw_p5 : lw_okq (⟨"MarkOrder$Reader", "readTwo", "(LMarkOrder$Codes;I)Z"⟩, 9) := ⟨⟨by decide +kernel, by decide +kernel⟩, List.mem_of_getElem? (i := 21) (by decide +kernel), List.mem_of_getElem? (i := 301) (by decide +kernel), List.mem_of_getElem? (i := 302) (by decide +kernel)⟩
theorem lw_p6 : lw_okq (⟨"MarkOrder$Reader", "readSingle", "(LMarkOrder$Codes;)Z"⟩, 9) := ⟨⟨by decide +kernel, by decide +kernel⟩, List.mem_of_getElem? (i := 21) (by decide +kernel), List.mem_of_getElem? (i := 346) (by decide +kernel), List.mem_of_getElem? (i := 347) (by decide +kernel)⟩
theorem lw_p7 : lw_okq (⟨"MarkOrder$Codes", "addPiece", "(I)V"⟩, 8) := ⟨⟨by decide +kernel, by decide +kernel⟩, List.mem_of_getElem? (i := 72) (by decide +kernel), List.mem_of_getElem? (i := 356) (by decide +kernel), List.mem_of_getElem? (i := 357) (by decide +kernel)⟩
theorem lw_p8 : lw_okq (⟨"MarkOrder$Codes", "addPiecesOf", "(I)V"⟩, 8) := ⟨⟨by decide +kernel, by decide +kernel⟩, List.mem_of_getElem? (i := 72) (by decide +kernel), List.mem_of_getElem? (i := 360) (by decide +kernel), List.mem_of_getElem? (i := 361) (by decide +kernel)⟩
theorem lw_p9 : lw_okq (⟨"MarkOrder$Rules", "takeApart", "(LMarkOrder$Codes;LMarkOrder$Row;LMarkOrder$Row;)V"⟩, 2) := ⟨⟨by decide +kernel, by decide +kernel⟩, List.mem_of_getElem? (i := 159) (by decide +kernel), List.mem_of_getElem? (i := 447) (by decide +kernel), List.mem_of_getElem? (i := 448) (by decide +kernel)⟩
theorem lw_p10 : lw_okq (⟨"MarkOrder$Rules", "sort", "(LMarkOrder$Codes;LMarkOrder$Row;)V"⟩, 2) := ⟨⟨by decide +kernel, by decide +kernel⟩, List.mem_of_getElem? (i := 159) (by decide +kernel), List.mem_of_getElem? (i := 456) (by decide +kernel), List.mem_of_getElem? (i := 457) (by decide +kernel)⟩
theorem lw_p11 : lw_okq (⟨"MarkOrder$Rules", "join", "(LMarkOrder$Codes;LMarkOrder$Row;)V"⟩, 2) := ⟨⟨by decide +kernel, by decide +kernel⟩, List.mem_of_getElem? (i := 159) (by decide +kernel), List.mem_of_getElem? (i := 469) (by decide +kernel), List.mem_of_getElem? (i := 470) (by decide +kernel)⟩
theorem lw_p12 : lw_okq (⟨"MarkOrder$Rules", "dropMarks", "(LMarkOrder$Codes;LMarkOrder$Row;)V"⟩, 2) := ⟨⟨by decide +kernel, by decide +kernel⟩, List.mem_of_getElem? (i := 159) (by decide +kernel), List.mem_of_getElem? (i := 481) (by decide +kernel), List.mem_of_getElem? (i := 482) (by decide +kernel)⟩
theorem lw_p13 : lw_okq (⟨"MarkOrder$Rules", "turn", "(LMarkOrder$Row;LMarkOrder$Row;)V"⟩, 2) := ⟨⟨by decide +kernel, by decide +kernel⟩, List.mem_of_getElem? (i := 159) (by decide +kernel), List.mem_of_getElem? (i := 489) (by decide +kernel), List.mem_of_getElem? (i := 490) (by decide +kernel)⟩
theorem lw_p14 : lw_okq (⟨"MarkOrder$Rules", "takeFirst", "(LMarkOrder$Codes;LMarkOrder$Row;LMarkOrder$Row;)V"⟩, 2) := ⟨⟨by decide +kernel, by decide +kernel⟩, List.mem_of_getElem? (i := 159) (by decide +kernel), List.mem_of_getElem? (i := 493) (by decide +kernel), List.mem_of_getElem? (i := 494) (by decide +kernel)⟩
theorem lw_p15 : lw_okq (⟨"MarkOrder", "quickApart", "(LMarkOrder$Row;)I"⟩, 11) := ⟨⟨by decide +kernel, by decide +kernel⟩, List.mem_of_getElem? (i := 13) (by decide +kernel), List.mem_of_getElem? (i := 530) (by decide +kernel), List.mem_of_getElem? (i := 531) (by decide +kernel)⟩
def lw_privs_1 : List (MethodName × Nat) := [(⟨"MarkOrder$Reader", "step", "()V"⟩, 9), (⟨"MarkOrder$Reader", "takeLetters", "()V"⟩, 9), (⟨"MarkOrder$Reader", "takeNumber", "()V"⟩, 9), (⟨"MarkOrder$Reader", "readCode", "(LMarkOrder$Codes;)Z"⟩, 9), (⟨"MarkOrder$Reader", "readPlain", "()Z"⟩, 9), (⟨"MarkOrder$Reader", "readTwo", "(LMarkOrder$Codes;I)Z"⟩, 9), (⟨"MarkOrder$Reader", "readSingle", "(LMarkOrder$Codes;)Z"⟩, 9), (⟨"MarkOrder$Codes", "addPiece", "(I)V"⟩, 8), (⟨"MarkOrder$Codes", "addPiecesOf", "(I)V"⟩, 8), (⟨"MarkOrder$Rules", "takeApart", "(LMarkOrder$Codes;LMarkOrder$Row;LMarkOrder$Row;)V"⟩, 2), (⟨"MarkOrder$Rules", "sort", "(LMarkOrder$Codes;LMarkOrder$Row;)V"⟩, 2), (⟨"MarkOrder$Rules", "join", "(LMarkOrder$Codes;LMarkOrder$Row;)V"⟩, 2), (⟨"MarkOrder$Rules", "dropMarks", "(LMarkOrder$Codes;LMarkOrder$Row;)V"⟩, 2), (⟨"MarkOrder$Rules", "turn", "(LMarkOrder$Row;LMarkOrder$Row;)V"⟩, 2), (⟨"MarkOrder$Rules", "takeFirst", "(LMarkOrder$Codes;LMarkOrder$Row;LMarkOrder$Row;)V"⟩, 2), (⟨"MarkOrder", "quickApart", "(LMarkOrder$Row;)I"⟩, 11)]
theorem lw_r1 : ∀ q ∈ lw_privs_1, lw_okq q := List.forall_mem_cons.mpr ⟨lw_p0, List.forall_mem_cons.mpr ⟨lw_p1, List.forall_mem_cons.mpr ⟨lw_p2, List.forall_mem_cons.mpr ⟨lw_p3, List.forall_mem_cons.mpr ⟨lw_p4, List.forall_mem_cons.mpr ⟨lw_p5, List.forall_mem_cons.mpr ⟨lw_p6, List.forall_mem_cons.mpr ⟨lw_p7, List.forall_mem_cons.mpr ⟨lw_p8, List.forall_mem_cons.mpr ⟨lw_p9, List.forall_mem_cons.mpr ⟨lw_p10, List.forall_mem_cons.mpr ⟨lw_p11, List.forall_mem_cons.mpr ⟨lw_p12, List.forall_mem_cons.mpr ⟨lw_p13, List.forall_mem_cons.mpr ⟨lw_p14, List.forall_mem_cons.mpr ⟨lw_p15, fun _ h => absurd h List.not_mem_nil⟩⟩⟩⟩⟩⟩⟩⟩⟩⟩⟩⟩⟩⟩⟩⟩
theorem lw_p16 : lw_okq (⟨"MarkOrder", "quickJoined", "(LMarkOrder$Row;)I"⟩, 11) := ⟨⟨by decide +kernel, by decide +kernel⟩, List.mem_of_getElem? (i := 13) (by decide +kernel), List.mem_of_getElem? (i := 538) (by decide +kernel), List.mem_of_getElem? (i := 539) (by decide +kernel)⟩
theorem lw_p17 : lw_okq (⟨"MarkOrder$Speller", "waysUpTo", "(ILMarkOrder$Row;LMarkOrder$Codes;)J"⟩, 1) := ⟨⟨by decide +kernel, by decide +kernel⟩, List.mem_of_getElem? (i := 174) (by decide +kernel), List.mem_of_getElem? (i := 586) (by decide +kernel), List.mem_of_getElem? (i := 587) (by decide +kernel)⟩
theorem lw_p18 : lw_okq (⟨"MarkOrderModel", "isCode", "(I)Z"⟩, 26) := ⟨⟨by decide +kernel, by decide +kernel⟩, List.mem_of_getElem? (i := 669) (by decide +kernel), List.mem_of_getElem? (i := 758) (by decide +kernel), List.mem_of_getElem? (i := 759) (by decide +kernel)⟩
theorem lw_p19 : lw_okq (⟨"MarkOrderModel", "pairOf", "(II)I"⟩, 26) := ⟨⟨by decide +kernel, by decide +kernel⟩, List.mem_of_getElem? (i := 669) (by decide +kernel), List.mem_of_getElem? (i := 769) (by decide +kernel), List.mem_of_getElem? (i := 770) (by decide +kernel)⟩
theorem lw_p20 : lw_okq (⟨"MarkOrderModel", "lays", "()V"⟩, 26) := ⟨⟨by decide +kernel, by decide +kernel⟩, List.mem_of_getElem? (i := 669) (by decide +kernel), List.mem_of_getElem? (i := 785) (by decide +kernel), List.mem_of_getElem? (i := 786) (by decide +kernel)⟩
theorem lw_p21 : lw_okq (⟨"MarkOrderModel", "readsAll", "()Z"⟩, 26) := ⟨⟨by decide +kernel, by decide +kernel⟩, List.mem_of_getElem? (i := 669) (by decide +kernel), List.mem_of_getElem? (i := 789) (by decide +kernel), List.mem_of_getElem? (i := 790) (by decide +kernel)⟩
theorem lw_p22 : lw_okq (⟨"MarkOrderModel", "skip", "()V"⟩, 26) := ⟨⟨by decide +kernel, by decide +kernel⟩, List.mem_of_getElem? (i := 669) (by decide +kernel), List.mem_of_getElem? (i := 793) (by decide +kernel), List.mem_of_getElem? (i := 794) (by decide +kernel)⟩
theorem lw_p23 : lw_okq (⟨"MarkOrderModel", "here", "()I"⟩, 26) := ⟨⟨by decide +kernel, by decide +kernel⟩, List.mem_of_getElem? (i := 669) (by decide +kernel), List.mem_of_getElem? (i := 797) (by decide +kernel), List.mem_of_getElem? (i := 798) (by decide +kernel)⟩
theorem lw_p24 : lw_okq (⟨"MarkOrderModel", "readsCode", "()Z"⟩, 26) := ⟨⟨by decide +kernel, by decide +kernel⟩, List.mem_of_getElem? (i := 669) (by decide +kernel), List.mem_of_getElem? (i := 801) (by decide +kernel), List.mem_of_getElem? (i := 802) (by decide +kernel)⟩
theorem lw_p25 : lw_okq (⟨"MarkOrderModel", "sortMany", "(I)I"⟩, 26) := ⟨⟨by decide +kernel, by decide +kernel⟩, List.mem_of_getElem? (i := 669) (by decide +kernel), List.mem_of_getElem? (i := 805) (by decide +kernel), List.mem_of_getElem? (i := 806) (by decide +kernel)⟩
theorem lw_p26 : lw_okq (⟨"MarkOrderModel", "readsPlain", "()Z"⟩, 26) := ⟨⟨by decide +kernel, by decide +kernel⟩, List.mem_of_getElem? (i := 669) (by decide +kernel), List.mem_of_getElem? (i := 809) (by decide +kernel), List.mem_of_getElem? (i := 810) (by decide +kernel)⟩
theorem lw_p27 : lw_okq (⟨"MarkOrderModel", "number", "(II)Z"⟩, 26) := ⟨⟨by decide +kernel, by decide +kernel⟩, List.mem_of_getElem? (i := 669) (by decide +kernel), List.mem_of_getElem? (i := 813) (by decide +kernel), List.mem_of_getElem? (i := 814) (by decide +kernel)⟩
theorem lw_p28 : lw_okq (⟨"MarkOrderModel", "comes", "(IIII)V"⟩, 26) := ⟨⟨by decide +kernel, by decide +kernel⟩, List.mem_of_getElem? (i := 669) (by decide +kernel), List.mem_of_getElem? (i := 817) (by decide +kernel), List.mem_of_getElem? (i := 818) (by decide +kernel)⟩
theorem lw_p29 : lw_okq (⟨"MarkOrderModel", "comesPiece", "(II)V"⟩, 26) := ⟨⟨by decide +kernel, by decide +kernel⟩, List.mem_of_getElem? (i := 669) (by decide +kernel), List.mem_of_getElem? (i := 821) (by decide +kernel), List.mem_of_getElem? (i := 822) (by decide +kernel)⟩
theorem lw_p30 : lw_okq (⟨"MarkOrderModel", "ends", "()Z"⟩, 26) := ⟨⟨by decide +kernel, by decide +kernel⟩, List.mem_of_getElem? (i := 669) (by decide +kernel), List.mem_of_getElem? (i := 825) (by decide +kernel), List.mem_of_getElem? (i := 826) (by decide +kernel)⟩
theorem lw_p31 : lw_okq (⟨"MarkOrderModel", "readsSingle", "()Z"⟩, 26) := ⟨⟨by decide +kernel, by decide +kernel⟩, List.mem_of_getElem? (i := 669) (by decide +kernel), List.mem_of_getElem? (i := 829) (by decide +kernel), List.mem_of_getElem? (i := 830) (by decide +kernel)⟩
def lw_privs_2 : List (MethodName × Nat) := [(⟨"MarkOrder", "quickJoined", "(LMarkOrder$Row;)I"⟩, 11), (⟨"MarkOrder$Speller", "waysUpTo", "(ILMarkOrder$Row;LMarkOrder$Codes;)J"⟩, 1), (⟨"MarkOrderModel", "isCode", "(I)Z"⟩, 26), (⟨"MarkOrderModel", "pairOf", "(II)I"⟩, 26), (⟨"MarkOrderModel", "lays", "()V"⟩, 26), (⟨"MarkOrderModel", "readsAll", "()Z"⟩, 26), (⟨"MarkOrderModel", "skip", "()V"⟩, 26), (⟨"MarkOrderModel", "here", "()I"⟩, 26), (⟨"MarkOrderModel", "readsCode", "()Z"⟩, 26), (⟨"MarkOrderModel", "sortMany", "(I)I"⟩, 26), (⟨"MarkOrderModel", "readsPlain", "()Z"⟩, 26), (⟨"MarkOrderModel", "number", "(II)Z"⟩, 26), (⟨"MarkOrderModel", "comes", "(IIII)V"⟩, 26), (⟨"MarkOrderModel", "comesPiece", "(II)V"⟩, 26), (⟨"MarkOrderModel", "ends", "()Z"⟩, 26), (⟨"MarkOrderModel", "readsSingle", "()Z"⟩, 26)]
theorem lw_r2 : ∀ q ∈ lw_privs_2, lw_okq q := List.forall_mem_cons.mpr ⟨lw_p16, List.forall_mem_cons.mpr ⟨lw_p17, List.forall_mem_cons.mpr ⟨lw_p18, List.forall_mem_cons.mpr ⟨lw_p19, List.forall_mem_cons.mpr ⟨lw_p20, List.forall_mem_cons.mpr ⟨lw_p21, List.forall_mem_cons.mpr ⟨lw_p22, List.forall_mem_cons.mpr ⟨lw_p23, List.forall_mem_cons.mpr ⟨lw_p24, List.forall_mem_cons.mpr ⟨lw_p25, List.forall_mem_cons.mpr ⟨lw_p26, List.forall_mem_cons.mpr ⟨lw_p27, List.forall_mem_cons.mpr ⟨lw_p28, List.forall_mem_cons.mpr ⟨lw_p29, List.forall_mem_cons.mpr ⟨lw_p30, List.forall_mem_cons.mpr ⟨lw_p31, fun _ h => absurd h List.not_mem_nil⟩⟩⟩⟩⟩⟩⟩⟩⟩⟩⟩⟩⟩⟩⟩⟩
theorem lw_p32 : lw_okq (⟨"MarkOrderModel", "readsTwo", "(I)Z"⟩, 26) := ⟨⟨by decide +kernel, by decide +kernel⟩, List.mem_of_getElem? (i := 669) (by decide +kernel), List.mem_of_getElem? (i := 833) (by decide +kernel), List.mem_of_getElem? (i := 834) (by decide +kernel)⟩
theorem lw_p33 : lw_okq (⟨"MarkOrderModel", "mayBegin", "(I)Z"⟩, 26) := ⟨⟨by decide +kernel, by decide +kernel⟩, List.mem_of_getElem? (i := 669) (by decide +kernel), List.mem_of_getElem? (i := 837) (by decide +kernel), List.mem_of_getElem? (i := 838) (by decide +kernel)⟩
theorem lw_p34 : lw_okq (⟨"MarkOrderModel", "mayFollow", "(III)Z"⟩, 26) := ⟨⟨by decide +kernel, by decide +kernel⟩, List.mem_of_getElem? (i := 669) (by decide +kernel), List.mem_of_getElem? (i := 841) (by decide +kernel), List.mem_of_getElem? (i := 842) (by decide +kernel)⟩
theorem lw_p35 : lw_okq (⟨"MarkOrderModel", "takes", "()V"⟩, 26) := ⟨⟨by decide +kernel, by decide +kernel⟩, List.mem_of_getElem? (i := 669) (by decide +kernel), List.mem_of_getElem? (i := 845) (by decide +kernel), List.mem_of_getElem? (i := 846) (by decide +kernel)⟩
theorem lw_p36 : lw_okq (⟨"MarkOrderModel", "notes", "(I)V"⟩, 26) := ⟨⟨by decide +kernel, by decide +kernel⟩, List.mem_of_getElem? (i := 669) (by decide +kernel), List.mem_of_getElem? (i := 856) (by decide +kernel), List.mem_of_getElem? (i := 857) (by decide +kernel)⟩
theorem lw_p37 : lw_okq (⟨"MarkOrderModel", "adds", "(II)V"⟩, 26) := ⟨⟨by decide +kernel, by decide +kernel⟩, List.mem_of_getElem? (i := 669) (by decide +kernel), List.mem_of_getElem? (i := 860) (by decide +kernel), List.mem_of_getElem? (i := 861) (by decide +kernel)⟩
theorem lw_p38 : lw_okq (⟨"MarkOrderModel", "comeOut", "(I)V"⟩, 26) := ⟨⟨by decide +kernel, by decide +kernel⟩, List.mem_of_getElem? (i := 669) (by decide +kernel), List.mem_of_getElem? (i := 879) (by decide +kernel), List.mem_of_getElem? (i := 880) (by decide +kernel)⟩
theorem lw_p39 : lw_okq (⟨"MarkOrderModel", "addsOut", "(I)V"⟩, 26) := ⟨⟨by decide +kernel, by decide +kernel⟩, List.mem_of_getElem? (i := 669) (by decide +kernel), List.mem_of_getElem? (i := 883) (by decide +kernel), List.mem_of_getElem? (i := 884) (by decide +kernel)⟩
theorem lw_p40 : lw_okq (⟨"MarkOrderModel", "rules", "(I)V"⟩, 26) := ⟨⟨by decide +kernel, by decide +kernel⟩, List.mem_of_getElem? (i := 669) (by decide +kernel), List.mem_of_getElem? (i := 887) (by decide +kernel), List.mem_of_getElem? (i := 888) (by decide +kernel)⟩
theorem lw_p41 : lw_okq (⟨"MarkOrderModel", "comeApart", "()V"⟩, 26) := ⟨⟨by decide +kernel, by decide +kernel⟩, List.mem_of_getElem? (i := 669) (by decide +kernel), List.mem_of_getElem? (i := 891) (by decide +kernel), List.mem_of_getElem? (i := 892) (by decide +kernel)⟩
theorem lw_p42 : lw_okq (⟨"MarkOrderModel", "asOther", "()V"⟩, 26) := ⟨⟨by decide +kernel, by decide +kernel⟩, List.mem_of_getElem? (i := 669) (by decide +kernel), List.mem_of_getElem? (i := 895) (by decide +kernel), List.mem_of_getElem? (i := 896) (by decide +kernel)⟩
theorem lw_p43 : lw_okq (⟨"MarkOrderModel", "sorts", "()V"⟩, 26) := ⟨⟨by decide +kernel, by decide +kernel⟩, List.mem_of_getElem? (i := 669) (by decide +kernel), List.mem_of_getElem? (i := 899) (by decide +kernel), List.mem_of_getElem? (i := 900) (by decide +kernel)⟩
theorem lw_p44 : lw_okq (⟨"MarkOrderModel", "joins", "()V"⟩, 26) := ⟨⟨by decide +kernel, by decide +kernel⟩, List.mem_of_getElem? (i := 669) (by decide +kernel), List.mem_of_getElem? (i := 903) (by decide +kernel), List.mem_of_getElem? (i := 904) (by decide +kernel)⟩
theorem lw_p45 : lw_okq (⟨"MarkOrderModel", "isBlocked", "(II)Z"⟩, 26) := ⟨⟨by decide +kernel, by decide +kernel⟩, List.mem_of_getElem? (i := 669) (by decide +kernel), List.mem_of_getElem? (i := 907) (by decide +kernel), List.mem_of_getElem? (i := 908) (by decide +kernel)⟩
theorem lw_p46 : lw_okq (⟨"MarkOrderModel", "keepsBases", "()V"⟩, 26) := ⟨⟨by decide +kernel, by decide +kernel⟩, List.mem_of_getElem? (i := 669) (by decide +kernel), List.mem_of_getElem? (i := 911) (by decide +kernel), List.mem_of_getElem? (i := 912) (by decide +kernel)⟩
theorem lw_p47 : lw_okq (⟨"MarkOrderModel", "turns", "()V"⟩, 26) := ⟨⟨by decide +kernel, by decide +kernel⟩, List.mem_of_getElem? (i := 669) (by decide +kernel), List.mem_of_getElem? (i := 915) (by decide +kernel), List.mem_of_getElem? (i := 916) (by decide +kernel)⟩
def lw_privs_3 : List (MethodName × Nat) := [(⟨"MarkOrderModel", "readsTwo", "(I)Z"⟩, 26), (⟨"MarkOrderModel", "mayBegin", "(I)Z"⟩, 26), (⟨"MarkOrderModel", "mayFollow", "(III)Z"⟩, 26), (⟨"MarkOrderModel", "takes", "()V"⟩, 26), (⟨"MarkOrderModel", "notes", "(I)V"⟩, 26), (⟨"MarkOrderModel", "adds", "(II)V"⟩, 26), (⟨"MarkOrderModel", "comeOut", "(I)V"⟩, 26), (⟨"MarkOrderModel", "addsOut", "(I)V"⟩, 26), (⟨"MarkOrderModel", "rules", "(I)V"⟩, 26), (⟨"MarkOrderModel", "comeApart", "()V"⟩, 26), (⟨"MarkOrderModel", "asOther", "()V"⟩, 26), (⟨"MarkOrderModel", "sorts", "()V"⟩, 26), (⟨"MarkOrderModel", "joins", "()V"⟩, 26), (⟨"MarkOrderModel", "isBlocked", "(II)Z"⟩, 26), (⟨"MarkOrderModel", "keepsBases", "()V"⟩, 26), (⟨"MarkOrderModel", "turns", "()V"⟩, 26)]
theorem lw_r3 : ∀ q ∈ lw_privs_3, lw_okq q := List.forall_mem_cons.mpr ⟨lw_p32, List.forall_mem_cons.mpr ⟨lw_p33, List.forall_mem_cons.mpr ⟨lw_p34, List.forall_mem_cons.mpr ⟨lw_p35, List.forall_mem_cons.mpr ⟨lw_p36, List.forall_mem_cons.mpr ⟨lw_p37, List.forall_mem_cons.mpr ⟨lw_p38, List.forall_mem_cons.mpr ⟨lw_p39, List.forall_mem_cons.mpr ⟨lw_p40, List.forall_mem_cons.mpr ⟨lw_p41, List.forall_mem_cons.mpr ⟨lw_p42, List.forall_mem_cons.mpr ⟨lw_p43, List.forall_mem_cons.mpr ⟨lw_p44, List.forall_mem_cons.mpr ⟨lw_p45, List.forall_mem_cons.mpr ⟨lw_p46, List.forall_mem_cons.mpr ⟨lw_p47, fun _ h => absurd h List.not_mem_nil⟩⟩⟩⟩⟩⟩⟩⟩⟩⟩⟩⟩⟩⟩⟩⟩
theorem lw_p48 : lw_okq (⟨"MarkOrderModel", "keepsFirst", "()V"⟩, 26) := ⟨⟨by decide +kernel, by decide +kernel⟩, List.mem_of_getElem? (i := 669) (by decide +kernel), List.mem_of_getElem? (i := 919) (by decide +kernel), List.mem_of_getElem? (i := 920) (by decide +kernel)⟩
theorem lw_p49 : lw_okq (⟨"MarkOrderModel", "told", "(I)I"⟩, 26) := ⟨⟨by decide +kernel, by decide +kernel⟩, List.mem_of_getElem? (i := 669) (by decide +kernel), List.mem_of_getElem? (i := 931) (by decide +kernel), List.mem_of_getElem? (i := 932) (by decide +kernel)⟩
theorem lw_p50 : lw_okq (⟨"MarkOrderModel", "isSecond", "(I)Z"⟩, 26) := ⟨⟨by decide +kernel, by decide +kernel⟩, List.mem_of_getElem? (i := 669) (by decide +kernel), List.mem_of_getElem? (i := 943) (by decide +kernel), List.mem_of_getElem? (i := 944) (by decide +kernel)⟩
theorem lw_p51 : lw_okq (⟨"MarkOrderModel", "isSorted", "()Z"⟩, 26) := ⟨⟨by decide +kernel, by decide +kernel⟩, List.mem_of_getElem? (i := 669) (by decide +kernel), List.mem_of_getElem? (i := 947) (by decide +kernel), List.mem_of_getElem? (i := 948) (by decide +kernel)⟩
theorem lw_p52 : lw_okq (⟨"MarkOrderModel", "keeps", "()V"⟩, 26) := ⟨⟨by decide +kernel, by decide +kernel⟩, List.mem_of_getElem? (i := 669) (by decide +kernel), List.mem_of_getElem? (i := 951) (by decide +kernel), List.mem_of_getElem? (i := 952) (by decide +kernel)⟩
theorem lw_p53 : lw_okq (⟨"MarkOrderModel", "isKept", "()Z"⟩, 26) := ⟨⟨by decide +kernel, by decide +kernel⟩, List.mem_of_getElem? (i := 669) (by decide +kernel), List.mem_of_getElem? (i := 955) (by decide +kernel), List.mem_of_getElem? (i := 956) (by decide +kernel)⟩
theorem lw_p54 : lw_okq (⟨"MarkOrderModel", "stands", "(II)Z"⟩, 26) := ⟨⟨by decide +kernel, by decide +kernel⟩, List.mem_of_getElem? (i := 669) (by decide +kernel), List.mem_of_getElem? (i := 972) (by decide +kernel), List.mem_of_getElem? (i := 973) (by decide +kernel)⟩
theorem lw_p55 : lw_okq (⟨"MarkOrderModel", "goesThrough", "()V"⟩, 26) := ⟨⟨by decide +kernel, by decide +kernel⟩, List.mem_of_getElem? (i := 669) (by decide +kernel), List.mem_of_getElem? (i := 989) (by decide +kernel), List.mem_of_getElem? (i := 990) (by decide +kernel)⟩
theorem lw_p56 : lw_okq (⟨"MarkOrderModel", "allMany", "()I"⟩, 26) := ⟨⟨by decide +kernel, by decide +kernel⟩, List.mem_of_getElem? (i := 669) (by decide +kernel), List.mem_of_getElem? (i := 1001) (by decide +kernel), List.mem_of_getElem? (i := 1002) (by decide +kernel)⟩
theorem lw_p57 : lw_okq (⟨"MarkOrderModel", "marks", "()I"⟩, 26) := ⟨⟨by decide +kernel, by decide +kernel⟩, List.mem_of_getElem? (i := 669) (by decide +kernel), List.mem_of_getElem? (i := 1013) (by decide +kernel), List.mem_of_getElem? (i := 1014) (by decide +kernel)⟩
def lw_privs_4 : List (MethodName × Nat) := [(⟨"MarkOrderModel", "keepsFirst", "()V"⟩, 26), (⟨"MarkOrderModel", "told", "(I)I"⟩, 26), (⟨"MarkOrderModel", "isSecond", "(I)Z"⟩, 26), (⟨"MarkOrderModel", "isSorted", "()Z"⟩, 26), (⟨"MarkOrderModel", "keeps", "()V"⟩, 26), (⟨"MarkOrderModel", "isKept", "()Z"⟩, 26), (⟨"MarkOrderModel", "stands", "(II)Z"⟩, 26), (⟨"MarkOrderModel", "goesThrough", "()V"⟩, 26), (⟨"MarkOrderModel", "allMany", "()I"⟩, 26), (⟨"MarkOrderModel", "marks", "()I"⟩, 26)]
theorem lw_r4 : ∀ q ∈ lw_privs_4, lw_okq q := List.forall_mem_cons.mpr ⟨lw_p48, List.forall_mem_cons.mpr ⟨lw_p49, List.forall_mem_cons.mpr ⟨lw_p50, List.forall_mem_cons.mpr ⟨lw_p51, List.forall_mem_cons.mpr ⟨lw_p52, List.forall_mem_cons.mpr ⟨lw_p53, List.forall_mem_cons.mpr ⟨lw_p54, List.forall_mem_cons.mpr ⟨lw_p55, List.forall_mem_cons.mpr ⟨lw_p56, List.forall_mem_cons.mpr ⟨lw_p57, fun _ h => absurd h List.not_mem_nil⟩⟩⟩⟩⟩⟩⟩⟩⟩⟩
def lw_privs : List (MethodName × Nat) := lw_privs_1 ++ (lw_privs_2 ++ (lw_privs_3 ++ (lw_privs_4)))
def lw_tbl : List Cond := k2_sels lw_privs ++ tables_1
theorem lw_privs_ok : ∀ q ∈ lw_privs, lw_okq q := by
  show ∀ q ∈ lw_privs_1 ++ (lw_privs_2 ++ (lw_privs_3 ++ (lw_privs_4))), lw_okq q
  exact List.forall_mem_append.mpr ⟨lw_r1, List.forall_mem_append.mpr ⟨lw_r2, List.forall_mem_append.mpr ⟨lw_r3, lw_r4⟩⟩⟩
end
section
def RX0 : String := "MarkOrder$Board"
def TX0 : u_T := fun k => match k with
  | 0 => ("MarkOrder$Board", "texts", "[LMarkOrder$Row;", true)
  | _ => ("MarkOrder$Board", "pipe", "LMarkOrder$Row;", true)
def tyX0 : Nat → FieldType := fun k => match k with
  | 0 => .array (.object "MarkOrder$Row")
  | _ => .object "MarkOrder$Row"
abbrev wsX00 : List Cond := u_ws RX0 TX0 2
theorem nmX0 : ∀ a, a < 2 → ∀ b, b < 2 → a ≠ b → (TX0 a).2.1 ≠ (TX0 b).2.1 := by decide +kernel
theorem tyX0_ok : ∀ k, k < 2 → parseFieldDescriptor (TX0 k).2.2.1 = some (tyX0 k) := by decide +kernel
abbrev cX0_init : ByteArray := prog_2_method_1_code
def yX0_init : MethodName := ⟨RX0, "<init>", "()V"⟩
abbrev cX0_text : ByteArray := prog_2_method_2_code
def yX0_text : MethodName := ⟨RX0, "text", "(I)LMarkOrder$Row;"⟩
abbrev cX0_pipe : ByteArray := prog_2_method_3_code
def yX0_pipe : MethodName := ⟨RX0, "pipe", "()LMarkOrder$Row;"⟩
abbrev cX0_total : ByteArray := prog_2_method_4_code
def yX0_total : MethodName := ⟨RX0, "total", "()I"⟩
abbrev cX0_empty : ByteArray := prog_2_method_5_code
def yX0_empty : MethodName := ⟨RX0, "empty", "()V"⟩
abbrev cX0_become : ByteArray := prog_2_method_6_code
def yX0_become : MethodName := ⟨RX0, "become", "(LMarkOrder$Board;)V"⟩
def RX1 : String := "MarkOrder$Codes"
def TX1 : u_T := fun k => match k with
  | 0 => ("MarkOrder$Codes", "kinds", "[I", true)
  | 1 => ("MarkOrder$Codes", "classes", "[I", true)
  | 2 => ("MarkOrder$Codes", "firsts", "[I", true)
  | 3 => ("MarkOrder$Codes", "seconds", "[I", true)
  | 4 => ("MarkOrder$Codes", "pieceCounts", "[I", true)
  | 5 => ("MarkOrder$Codes", "pieces", "[I", true)
  | 6 => ("MarkOrder$Codes", "pairs", "LMarkOrder$Row;", true)
  | _ => ("MarkOrder$Codes", "size", "I", false)
def tyX1 : Nat → FieldType := fun k => match k with
  | 0 => .array .int
  | 1 => .array .int
  | 2 => .array .int
  | 3 => .array .int
  | 4 => .array .int
  | 5 => .array .int
  | 6 => .object "MarkOrder$Row"
  | _ => .int
abbrev wsX10 : List Cond := u_ws RX1 TX1 8
theorem nmX1 : ∀ a, a < 8 → ∀ b, b < 8 → a ≠ b → (TX1 a).2.1 ≠ (TX1 b).2.1 := by decide +kernel
theorem tyX1_ok : ∀ k, k < 8 → parseFieldDescriptor (TX1 k).2.2.1 = some (tyX1 k) := by decide +kernel
abbrev cX1_init : ByteArray := prog_3_method_1_code
def yX1_init : MethodName := ⟨RX1, "<init>", "()V"⟩
abbrev cX1_size : ByteArray := prog_3_method_2_code
def yX1_size : MethodName := ⟨RX1, "size", "()I"⟩
abbrev cX1_holds : ByteArray := prog_3_method_3_code
def yX1_holds : MethodName := ⟨RX1, "holds", "(I)Z"⟩
abbrev cX1_isFull : ByteArray := prog_3_method_4_code
def yX1_isFull : MethodName := ⟨RX1, "isFull", "()Z"⟩
abbrev cX1_hasRoomForPair : ByteArray := prog_3_method_5_code
def yX1_hasRoomForPair : MethodName := ⟨RX1, "hasRoomForPair", "()Z"⟩
abbrev cX1_kindOf : ByteArray := prog_3_method_6_code
def yX1_kindOf : MethodName := ⟨RX1, "kindOf", "(I)I"⟩
abbrev cX1_classOf : ByteArray := prog_3_method_7_code
def yX1_classOf : MethodName := ⟨RX1, "classOf", "(I)I"⟩
abbrev cX1_isBase : ByteArray := prog_3_method_8_code
def yX1_isBase : MethodName := ⟨RX1, "isBase", "(I)Z"⟩
abbrev cX1_firstOf : ByteArray := prog_3_method_9_code
def yX1_firstOf : MethodName := ⟨RX1, "firstOf", "(I)I"⟩
abbrev cX1_secondOf : ByteArray := prog_3_method_10_code
def yX1_secondOf : MethodName := ⟨RX1, "secondOf", "(I)I"⟩
abbrev cX1_pieceCount : ByteArray := prog_3_method_11_code
def yX1_pieceCount : MethodName := ⟨RX1, "pieceCount", "(I)I"⟩
abbrev cX1_piece : ByteArray := prog_3_method_12_code
def yX1_piece : MethodName := ⟨RX1, "piece", "(II)I"⟩
abbrev cX1_pairOf : ByteArray := prog_3_method_13_code
def yX1_pairOf : MethodName := ⟨RX1, "pairOf", "(II)I"⟩
abbrev cX1_isSecondOfPair : ByteArray := prog_3_method_14_code
def yX1_isSecondOfPair : MethodName := ⟨RX1, "isSecondOfPair", "(I)Z"⟩
abbrev cX1_piecesStandAt : ByteArray := prog_3_method_15_code
def yX1_piecesStandAt : MethodName := ⟨RX1, "piecesStandAt", "(ILMarkOrder$Row;I)Z"⟩
abbrev cX1_countKind : ByteArray := prog_3_method_16_code
def yX1_countKind : MethodName := ⟨RX1, "countKind", "(I)I"⟩
abbrev cX1_countMarks : ByteArray := prog_3_method_17_code
def yX1_countMarks : MethodName := ⟨RX1, "countMarks", "()I"⟩
abbrev cX1_mayBeFirst : ByteArray := prog_3_method_18_code
def yX1_mayBeFirst : MethodName := ⟨RX1, "mayBeFirst", "(I)Z"⟩
abbrev cX1_mayBeSecond : ByteArray := prog_3_method_19_code
def yX1_mayBeSecond : MethodName := ⟨RX1, "mayBeSecond", "(III)Z"⟩
abbrev cX1_empty : ByteArray := prog_3_method_20_code
def yX1_empty : MethodName := ⟨RX1, "empty", "()V"⟩
abbrev cX1_add : ByteArray := prog_3_method_21_code
def yX1_add : MethodName := ⟨RX1, "add", "(IIII)V"⟩
abbrev cX1_addPiecesOf : ByteArray := prog_3_method_22_code
def yX1_addPiecesOf : MethodName := ⟨RX1, "addPiecesOf", "(I)V"⟩
abbrev cX1_addPiece : ByteArray := prog_3_method_23_code
def yX1_addPiece : MethodName := ⟨RX1, "addPiece", "(I)V"⟩
def RX2 : String := "MarkOrder$History"
def TX2 : u_T := fun k => match k with
  | 0 => ("MarkOrder$History", "olds", "[LMarkOrder$Row;", true)
  | 1 => ("MarkOrder$History", "owners", "[I", true)
  | 2 => ("MarkOrder$History", "known", "I", false)
  | _ => ("MarkOrder$History", "latest", "I", false)
def tyX2 : Nat → FieldType := fun k => match k with
  | 0 => .array (.object "MarkOrder$Row")
  | 1 => .array .int
  | 2 => .int
  | _ => .int
abbrev wsX20 : List Cond := u_ws RX2 TX2 4
theorem nmX2 : ∀ a, a < 4 → ∀ b, b < 4 → a ≠ b → (TX2 a).2.1 ≠ (TX2 b).2.1 := by decide +kernel
theorem tyX2_ok : ∀ k, k < 4 → parseFieldDescriptor (TX2 k).2.2.1 = some (tyX2 k) := by decide +kernel
abbrev cX2_init : ByteArray := prog_4_method_1_code
def yX2_init : MethodName := ⟨RX2, "<init>", "()V"⟩
abbrev cX2_known : ByteArray := prog_4_method_2_code
def yX2_known : MethodName := ⟨RX2, "known", "()I"⟩
abbrev cX2_forget : ByteArray := prog_4_method_3_code
def yX2_forget : MethodName := ⟨RX2, "forget", "()V"⟩
abbrev cX2_remember : ByteArray := prog_4_method_4_code
def yX2_remember : MethodName := ⟨RX2, "remember", "(ILMarkOrder$Row;)V"⟩
abbrev cX2_latestText : ByteArray := prog_4_method_5_code
def yX2_latestText : MethodName := ⟨RX2, "latestText", "()I"⟩
abbrev cX2_giveBack : ByteArray := prog_4_method_6_code
def yX2_giveBack : MethodName := ⟨RX2, "giveBack", "(LMarkOrder$Row;)V"⟩
def RX3 : String := "MarkOrder$Images"
def TX3 : u_T := fun k => match k with
  | 0 => ("MarkOrder$Images", "boards", "[LMarkOrder$Board;", true)
  | _ => ("MarkOrder$Images", "kept", "[Z", true)
def tyX3 : Nat → FieldType := fun k => match k with
  | 0 => .array (.object "MarkOrder$Board")
  | _ => .array .boolean
abbrev wsX30 : List Cond := u_ws RX3 TX3 2
theorem nmX3 : ∀ a, a < 2 → ∀ b, b < 2 → a ≠ b → (TX3 a).2.1 ≠ (TX3 b).2.1 := by decide +kernel
theorem tyX3_ok : ∀ k, k < 2 → parseFieldDescriptor (TX3 k).2.2.1 = some (tyX3 k) := by decide +kernel
abbrev cX3_init : ByteArray := prog_5_method_1_code
def yX3_init : MethodName := ⟨RX3, "<init>", "()V"⟩
abbrev cX3_image : ByteArray := prog_5_method_2_code
def yX3_image : MethodName := ⟨RX3, "image", "(I)LMarkOrder$Board;"⟩
abbrev cX3_isKept : ByteArray := prog_5_method_3_code
def yX3_isKept : MethodName := ⟨RX3, "isKept", "(I)Z"⟩
abbrev cX3_take : ByteArray := prog_5_method_4_code
def yX3_take : MethodName := ⟨RX3, "take", "(ILMarkOrder$Board;)Z"⟩
abbrev cX3_drop : ByteArray := prog_5_method_5_code
def yX3_drop : MethodName := ⟨RX3, "drop", "()V"⟩
def RX4 : String := "MarkOrder$Reader"
def TX4 : u_T := fun k => match k with
  | 0 => ("MarkOrder$Reader", "text", "LMarkOrder$Row;", true)
  | 1 => ("MarkOrder$Reader", "place", "I", false)
  | 2 => ("MarkOrder$Reader", "start", "I", false)
  | 3 => ("MarkOrder$Reader", "token", "I", false)
  | 4 => ("MarkOrder$Reader", "value", "I", false)
  | 5 => ("MarkOrder$Reader", "kind", "I", false)
  | 6 => ("MarkOrder$Reader", "ofClass", "I", false)
  | 7 => ("MarkOrder$Reader", "first", "I", false)
  | _ => ("MarkOrder$Reader", "second", "I", false)
def tyX4 : Nat → FieldType := fun k => match k with
  | 0 => .object "MarkOrder$Row"
  | 1 => .int
  | 2 => .int
  | 3 => .int
  | 4 => .int
  | 5 => .int
  | 6 => .int
  | 7 => .int
  | _ => .int
abbrev wsX40 : List Cond := u_ws RX4 TX4 9
theorem nmX4 : ∀ a, a < 9 → ∀ b, b < 9 → a ≠ b → (TX4 a).2.1 ≠ (TX4 b).2.1 := by decide +kernel
theorem tyX4_ok : ∀ k, k < 9 → parseFieldDescriptor (TX4 k).2.2.1 = some (tyX4 k) := by decide +kernel
abbrev cX4_init : ByteArray := prog_6_method_1_code
def yX4_init : MethodName := ⟨RX4, "<init>", "()V"⟩
abbrev cX4_typed : ByteArray := prog_6_method_2_code
def yX4_typed : MethodName := ⟨RX4, "typed", "()LMarkOrder$Row;"⟩
abbrev cX4_readInto : ByteArray := prog_6_method_3_code
def yX4_readInto : MethodName := ⟨RX4, "readInto", "(LMarkOrder$Codes;)I"⟩
abbrev cX4_readCode : ByteArray := prog_6_method_4_code
def yX4_readCode : MethodName := ⟨RX4, "readCode", "(LMarkOrder$Codes;)Z"⟩
abbrev cX4_readPlain : ByteArray := prog_6_method_5_code
def yX4_readPlain : MethodName := ⟨RX4, "readPlain", "()Z"⟩
abbrev cX4_readSingle : ByteArray := prog_6_method_6_code
def yX4_readSingle : MethodName := ⟨RX4, "readSingle", "(LMarkOrder$Codes;)Z"⟩
abbrev cX4_readTwo : ByteArray := prog_6_method_7_code
def yX4_readTwo : MethodName := ⟨RX4, "readTwo", "(LMarkOrder$Codes;I)Z"⟩
abbrev cX4_step : ByteArray := prog_6_method_8_code
def yX4_step : MethodName := ⟨RX4, "step", "()V"⟩
abbrev cX4_takeLetters : ByteArray := prog_6_method_9_code
def yX4_takeLetters : MethodName := ⟨RX4, "takeLetters", "()V"⟩
abbrev cX4_takeNumber : ByteArray := prog_6_method_10_code
def yX4_takeNumber : MethodName := ⟨RX4, "takeNumber", "()V"⟩
abbrev cX4_isLetter : ByteArray := prog_6_method_11_code
def yX4_isLetter : MethodName := ⟨RX4, "isLetter", "(I)Z"⟩
abbrev cX4_isDigit : ByteArray := prog_6_method_12_code
def yX4_isDigit : MethodName := ⟨RX4, "isDigit", "(I)Z"⟩
def RX5 : String := "MarkOrder$Row"
def TX5 : u_T := fun k => match k with
  | 0 => ("MarkOrder$Row", "cells", "[I", true)
  | _ => ("MarkOrder$Row", "length", "I", false)
def tyX5 : Nat → FieldType := fun k => match k with
  | 0 => .array .int
  | _ => .int
abbrev wsX50 : List Cond := u_ws RX5 TX5 2
theorem nmX5 : ∀ a, a < 2 → ∀ b, b < 2 → a ≠ b → (TX5 a).2.1 ≠ (TX5 b).2.1 := by decide +kernel
theorem tyX5_ok : ∀ k, k < 2 → parseFieldDescriptor (TX5 k).2.2.1 = some (tyX5 k) := by decide +kernel
abbrev cX5_init : ByteArray := prog_7_method_1_code
def yX5_init : MethodName := ⟨RX5, "<init>", "(I)V"⟩
abbrev cX5_length : ByteArray := prog_7_method_2_code
def yX5_length : MethodName := ⟨RX5, "length", "()I"⟩
abbrev cX5_has : ByteArray := prog_7_method_3_code
def yX5_has : MethodName := ⟨RX5, "has", "(I)Z"⟩
abbrev cX5_cell : ByteArray := prog_7_method_4_code
def yX5_cell : MethodName := ⟨RX5, "cell", "(I)I"⟩
abbrev cX5_setCell : ByteArray := prog_7_method_5_code
def yX5_setCell : MethodName := ⟨RX5, "setCell", "(II)V"⟩
abbrev cX5_swapWithNext : ByteArray := prog_7_method_6_code
def yX5_swapWithNext : MethodName := ⟨RX5, "swapWithNext", "(I)V"⟩
abbrev cX5_empty : ByteArray := prog_7_method_7_code
def yX5_empty : MethodName := ⟨RX5, "empty", "()V"⟩
abbrev cX5_push : ByteArray := prog_7_method_8_code
def yX5_push : MethodName := ⟨RX5, "push", "(I)Z"⟩
abbrev cX5_shorten : ByteArray := prog_7_method_9_code
def yX5_shorten : MethodName := ⟨RX5, "shorten", "(I)V"⟩
abbrev cX5_become : ByteArray := prog_7_method_10_code
def yX5_become : MethodName := ⟨RX5, "become", "(LMarkOrder$Row;)V"⟩
abbrev cX5_extend : ByteArray := prog_7_method_11_code
def yX5_extend : MethodName := ⟨RX5, "extend", "(LMarkOrder$Row;)V"⟩
abbrev cX5_isLike : ByteArray := prog_7_method_12_code
def yX5_isLike : MethodName := ⟨RX5, "isLike", "(LMarkOrder$Row;)Z"⟩
abbrev cX5_alikeAhead : ByteArray := prog_7_method_13_code
def yX5_alikeAhead : MethodName := ⟨RX5, "alikeAhead", "(LMarkOrder$Row;)I"⟩
abbrev cX5_alikeBehind : ByteArray := prog_7_method_14_code
def yX5_alikeBehind : MethodName := ⟨RX5, "alikeBehind", "(LMarkOrder$Row;)I"⟩
def RX6 : String := "MarkOrder$Rules"
def TX6 : u_T := fun k => match k with
  | 0 => ("MarkOrder$Rules", "both", "LMarkOrder$Row;", true)
  | _ => ("MarkOrder$Rules", "between", "LMarkOrder$Row;", true)
def tyX6 : Nat → FieldType := fun k => match k with
  | 0 => .object "MarkOrder$Row"
  | _ => .object "MarkOrder$Row"
abbrev wsX60 : List Cond := u_ws RX6 TX6 2
theorem nmX6 : ∀ a, a < 2 → ∀ b, b < 2 → a ≠ b → (TX6 a).2.1 ≠ (TX6 b).2.1 := by decide +kernel
theorem tyX6_ok : ∀ k, k < 2 → parseFieldDescriptor (TX6 k).2.2.1 = some (tyX6 k) := by decide +kernel
abbrev cX6_init : ByteArray := prog_8_method_1_code
def yX6_init : MethodName := ⟨RX6, "<init>", "()V"⟩
abbrev cX6_make : ByteArray := prog_8_method_2_code
def yX6_make : MethodName := ⟨RX6, "make", "(ILMarkOrder$Codes;LMarkOrder$Row;LMarkOrder$Row;)V"⟩
abbrev cX6_makeOfBoth : ByteArray := prog_8_method_3_code
def yX6_makeOfBoth : MethodName := ⟨RX6, "makeOfBoth", "(ILMarkOrder$Codes;LMarkOrder$Row;LMarkOrder$Row;LMarkOrder$Row;)V"⟩
abbrev cX6_goThrough : ByteArray := prog_8_method_4_code
def yX6_goThrough : MethodName := ⟨RX6, "goThrough", "(LMarkOrder$Row;LMarkOrder$Codes;LMarkOrder$Row;)V"⟩
abbrev cX6_isSorted : ByteArray := prog_8_method_5_code
def yX6_isSorted : MethodName := ⟨RX6, "isSorted", "(LMarkOrder$Codes;LMarkOrder$Row;)Z"⟩
abbrev cX6_takeApart : ByteArray := prog_8_method_6_code
def yX6_takeApart : MethodName := ⟨RX6, "takeApart", "(LMarkOrder$Codes;LMarkOrder$Row;LMarkOrder$Row;)V"⟩
abbrev cX6_sort : ByteArray := prog_8_method_7_code
def yX6_sort : MethodName := ⟨RX6, "sort", "(LMarkOrder$Codes;LMarkOrder$Row;)V"⟩
abbrev cX6_join : ByteArray := prog_8_method_8_code
def yX6_join : MethodName := ⟨RX6, "join", "(LMarkOrder$Codes;LMarkOrder$Row;)V"⟩
abbrev cX6_dropMarks : ByteArray := prog_8_method_9_code
def yX6_dropMarks : MethodName := ⟨RX6, "dropMarks", "(LMarkOrder$Codes;LMarkOrder$Row;)V"⟩
abbrev cX6_turn : ByteArray := prog_8_method_10_code
def yX6_turn : MethodName := ⟨RX6, "turn", "(LMarkOrder$Row;LMarkOrder$Row;)V"⟩
abbrev cX6_takeFirst : ByteArray := prog_8_method_11_code
def yX6_takeFirst : MethodName := ⟨RX6, "takeFirst", "(LMarkOrder$Codes;LMarkOrder$Row;LMarkOrder$Row;)V"⟩
def RX7 : String := "MarkOrder$Speller"
def TX7 : u_T := fun k => match k with
  | _ => ("MarkOrder$Speller", "ways", "[J", true)
def tyX7 : Nat → FieldType := fun k => match k with
  | _ => .array .long
abbrev wsX70 : List Cond := u_ws RX7 TX7 1
theorem nmX7 : ∀ a, a < 1 → ∀ b, b < 1 → a ≠ b → (TX7 a).2.1 ≠ (TX7 b).2.1 := by decide +kernel
theorem tyX7_ok : ∀ k, k < 1 → parseFieldDescriptor (TX7 k).2.2.1 = some (tyX7 k) := by decide +kernel
abbrev cX7_init : ByteArray := prog_9_method_1_code
def yX7_init : MethodName := ⟨RX7, "<init>", "()V"⟩
abbrev cX7_waysToSpell : ByteArray := prog_9_method_2_code
def yX7_waysToSpell : MethodName := ⟨RX7, "waysToSpell", "(LMarkOrder$Row;LMarkOrder$Codes;)J"⟩
abbrev cX7_waysUpTo : ByteArray := prog_9_method_3_code
def yX7_waysUpTo : MethodName := ⟨RX7, "waysUpTo", "(ILMarkOrder$Row;LMarkOrder$Codes;)J"⟩
def RX8 : String := "MarkOrder"
def TX8 : u_T := fun k => match k with
  | 0 => ("MarkOrder", "reader", "LMarkOrder$Reader;", true)
  | 1 => ("MarkOrder", "codes", "LMarkOrder$Codes;", false)
  | 2 => ("MarkOrder", "spareCodes", "LMarkOrder$Codes;", false)
  | 3 => ("MarkOrder", "board", "LMarkOrder$Board;", true)
  | 4 => ("MarkOrder", "images", "LMarkOrder$Images;", true)
  | 5 => ("MarkOrder", "history", "LMarkOrder$History;", true)
  | 6 => ("MarkOrder", "rules", "LMarkOrder$Rules;", true)
  | 7 => ("MarkOrder", "speller", "LMarkOrder$Speller;", true)
  | 8 => ("MarkOrder", "made", "LMarkOrder$Row;", true)
  | 9 => ("MarkOrder", "madeOfOne", "LMarkOrder$Row;", true)
  | _ => ("MarkOrder", "madeOfOther", "LMarkOrder$Row;", true)
def tyX8 : Nat → FieldType := fun k => match k with
  | 0 => .object "MarkOrder$Reader"
  | 1 => .object "MarkOrder$Codes"
  | 2 => .object "MarkOrder$Codes"
  | 3 => .object "MarkOrder$Board"
  | 4 => .object "MarkOrder$Images"
  | 5 => .object "MarkOrder$History"
  | 6 => .object "MarkOrder$Rules"
  | 7 => .object "MarkOrder$Speller"
  | 8 => .object "MarkOrder$Row"
  | 9 => .object "MarkOrder$Row"
  | _ => .object "MarkOrder$Row"
abbrev wsX80 : List Cond := u_ws RX8 TX8 11
theorem nmX8 : ∀ a, a < 11 → ∀ b, b < 11 → a ≠ b → (TX8 a).2.1 ≠ (TX8 b).2.1 := by decide +kernel
theorem tyX8_ok : ∀ k, k < 11 → parseFieldDescriptor (TX8 k).2.2.1 = some (tyX8 k) := by decide +kernel
abbrev cX8_init : ByteArray := prog_1_method_1_code
def yX8_init : MethodName := ⟨RX8, "<init>", "()V"⟩
abbrev cX8_type : ByteArray := prog_1_method_2_code
def yX8_type : MethodName := ⟨RX8, "type", "(I)I"⟩
abbrev cX8_clear : ByteArray := prog_1_method_3_code
def yX8_clear : MethodName := ⟨RX8, "clear", "()I"⟩
abbrev cX8_tables : ByteArray := prog_1_method_4_code
def yX8_tables : MethodName := ⟨RX8, "tables", "()I"⟩
abbrev cX8_code : ByteArray := prog_1_method_5_code
def yX8_code : MethodName := ⟨RX8, "code", "(II)I"⟩
abbrev cX8_pair : ByteArray := prog_1_method_6_code
def yX8_pair : MethodName := ⟨RX8, "pair", "(II)I"⟩
abbrev cX8_puts : ByteArray := prog_1_method_7_code
def yX8_puts : MethodName := ⟨RX8, "puts", "(II)I"⟩
abbrev cX8_cuts : ByteArray := prog_1_method_8_code
def yX8_cuts : MethodName := ⟨RX8, "cuts", "(I)I"⟩
abbrev cX8_appends : ByteArray := prog_1_method_9_code
def yX8_appends : MethodName := ⟨RX8, "appends", "(II)I"⟩
abbrev cX8_forms : ByteArray := prog_1_method_10_code
def yX8_forms : MethodName := ⟨RX8, "forms", "(II)I"⟩
abbrev cX8_undo : ByteArray := prog_1_method_11_code
def yX8_undo : MethodName := ⟨RX8, "undo", "()I"⟩
abbrev cX8_at : ByteArray := prog_1_method_12_code
def yX8_at : MethodName := ⟨RX8, "at", "(II)I"⟩
abbrev cX8_ruled : ByteArray := prog_1_method_13_code
def yX8_ruled : MethodName := ⟨RX8, "ruled", "(III)I"⟩
abbrev cX8_quick : ByteArray := prog_1_method_14_code
def yX8_quick : MethodName := ⟨RX8, "quick", "(II)I"⟩
abbrev cX8_same : ByteArray := prog_1_method_15_code
def yX8_same : MethodName := ⟨RX8, "same", "(III)I"⟩
abbrev cX8_seam : ByteArray := prog_1_method_16_code
def yX8_seam : MethodName := ⟨RX8, "seam", "(IIII)I"⟩
abbrev cX8_spellings : ByteArray := prog_1_method_17_code
def yX8_spellings : MethodName := ⟨RX8, "spellings", "(I)J"⟩
abbrev cX8_pipes : ByteArray := prog_1_method_18_code
def yX8_pipes : MethodName := ⟨RX8, "pipes", "(I)I"⟩
abbrev cX8_unpipe : ByteArray := prog_1_method_19_code
def yX8_unpipe : MethodName := ⟨RX8, "unpipe", "()I"⟩
abbrev cX8_piped : ByteArray := prog_1_method_20_code
def yX8_piped : MethodName := ⟨RX8, "piped", "(II)I"⟩
abbrev cX8_fixed : ByteArray := prog_1_method_21_code
def yX8_fixed : MethodName := ⟨RX8, "fixed", "(I)I"⟩
abbrev cX8_keep : ByteArray := prog_1_method_22_code
def yX8_keep : MethodName := ⟨RX8, "keep", "(I)I"⟩
abbrev cX8_back : ByteArray := prog_1_method_23_code
def yX8_back : MethodName := ⟨RX8, "back", "(I)I"⟩
abbrev cX8_count : ByteArray := prog_1_method_24_code
def yX8_count : MethodName := ⟨RX8, "count", "(I)I"⟩
abbrev cX8_isRule : ByteArray := prog_1_method_25_code
def yX8_isRule : MethodName := ⟨RX8, "isRule", "(I)Z"⟩
abbrev cX8_look : ByteArray := prog_1_method_26_code
def yX8_look : MethodName := ⟨RX8, "look", "(LMarkOrder$Row;I)I"⟩
abbrev cX8_quickApart : ByteArray := prog_1_method_27_code
def yX8_quickApart : MethodName := ⟨RX8, "quickApart", "(LMarkOrder$Row;)I"⟩
abbrev cX8_quickJoined : ByteArray := prog_1_method_28_code
def yX8_quickJoined : MethodName := ⟨RX8, "quickJoined", "(LMarkOrder$Row;)I"⟩
def RX9 : String := "MarkOrderModel"
def TX9 : u_T := fun k => match k with
  | 0 => ("MarkOrderModel", "codes", "I", false)
  | 1 => ("MarkOrderModel", "sortOf", "[I", true)
  | 2 => ("MarkOrderModel", "classOf", "[I", true)
  | 3 => ("MarkOrderModel", "firstOf", "[I", true)
  | 4 => ("MarkOrderModel", "secondOf", "[I", true)
  | 5 => ("MarkOrderModel", "pieceMany", "[I", true)
  | 6 => ("MarkOrderModel", "pieces", "[I", true)
  | 7 => ("MarkOrderModel", "text", "[I", true)
  | 8 => ("MarkOrderModel", "size", "I", false)
  | 9 => ("MarkOrderModel", "readAt", "I", false)
  | 10 => ("MarkOrderModel", "readNumber", "I", false)
  | 11 => ("MarkOrderModel", "before", "[I", true)
  | 12 => ("MarkOrderModel", "manyOf", "[I", true)
  | 13 => ("MarkOrderModel", "rows", "[I", true)
  | 14 => ("MarkOrderModel", "pipeMany", "I", false)
  | 15 => ("MarkOrderModel", "pipe", "[I", true)
  | 16 => ("MarkOrderModel", "ahead", "[I", true)
  | 17 => ("MarkOrderModel", "undoMany", "I", false)
  | 18 => ("MarkOrderModel", "many", "I", false)
  | 19 => ("MarkOrderModel", "row", "[I", true)
  | 20 => ("MarkOrderModel", "otherMany", "I", false)
  | 21 => ("MarkOrderModel", "other", "[I", true)
  | 22 => ("MarkOrderModel", "keptMany", "I", false)
  | 23 => ("MarkOrderModel", "kept", "[I", true)
  | 24 => ("MarkOrderModel", "ways", "[J", true)
  | _ => ("MarkOrderModel", "images", "[I", true)
def tyX9 : Nat → FieldType := fun k => match k with
  | 0 => .int
  | 1 => .array .int
  | 2 => .array .int
  | 3 => .array .int
  | 4 => .array .int
  | 5 => .array .int
  | 6 => .array .int
  | 7 => .array .int
  | 8 => .int
  | 9 => .int
  | 10 => .int
  | 11 => .array .int
  | 12 => .array .int
  | 13 => .array .int
  | 14 => .int
  | 15 => .array .int
  | 16 => .array .int
  | 17 => .int
  | 18 => .int
  | 19 => .array .int
  | 20 => .int
  | 21 => .array .int
  | 22 => .int
  | 23 => .array .int
  | 24 => .array .long
  | _ => .array .int
abbrev wsX90 : List Cond := u_ws RX9 TX9 26
theorem nmX9 : ∀ a, a < 26 → ∀ b, b < 26 → a ≠ b → (TX9 a).2.1 ≠ (TX9 b).2.1 := by decide +kernel
theorem tyX9_ok : ∀ k, k < 26 → parseFieldDescriptor (TX9 k).2.2.1 = some (tyX9 k) := by decide +kernel
abbrev cX9_init : ByteArray := prog_11_method_1_code
def yX9_init : MethodName := ⟨RX9, "<init>", "()V"⟩
abbrev cX9_in : ByteArray := prog_11_method_2_code
def yX9_in : MethodName := ⟨RX9, "in", "(III)Z"⟩
abbrev cX9_isCode : ByteArray := prog_11_method_3_code
def yX9_isCode : MethodName := ⟨RX9, "isCode", "(I)Z"⟩
abbrev cX9_sortMany : ByteArray := prog_11_method_4_code
def yX9_sortMany : MethodName := ⟨RX9, "sortMany", "(I)I"⟩
abbrev cX9_pairOf : ByteArray := prog_11_method_5_code
def yX9_pairOf : MethodName := ⟨RX9, "pairOf", "(II)I"⟩
abbrev cX9_comes : ByteArray := prog_11_method_6_code
def yX9_comes : MethodName := ⟨RX9, "comes", "(IIII)V"⟩
abbrev cX9_comesPiece : ByteArray := prog_11_method_7_code
def yX9_comesPiece : MethodName := ⟨RX9, "comesPiece", "(II)V"⟩
abbrev cX9_code : ByteArray := prog_11_method_8_code
def yX9_code : MethodName := ⟨RX9, "code", "(II)I"⟩
abbrev cX9_pair : ByteArray := prog_11_method_9_code
def yX9_pair : MethodName := ⟨RX9, "pair", "(II)I"⟩
abbrev cX9_type : ByteArray := prog_11_method_10_code
def yX9_type : MethodName := ⟨RX9, "type", "(I)I"⟩
abbrev cX9_clear : ByteArray := prog_11_method_11_code
def yX9_clear : MethodName := ⟨RX9, "clear", "()I"⟩
abbrev cX9_here : ByteArray := prog_11_method_12_code
def yX9_here : MethodName := ⟨RX9, "here", "()I"⟩
abbrev cX9_skip : ByteArray := prog_11_method_13_code
def yX9_skip : MethodName := ⟨RX9, "skip", "()V"⟩
abbrev cX9_number : ByteArray := prog_11_method_14_code
def yX9_number : MethodName := ⟨RX9, "number", "(II)Z"⟩
abbrev cX9_ends : ByteArray := prog_11_method_15_code
def yX9_ends : MethodName := ⟨RX9, "ends", "()Z"⟩
abbrev cX9_readsPlain : ByteArray := prog_11_method_16_code
def yX9_readsPlain : MethodName := ⟨RX9, "readsPlain", "()Z"⟩
abbrev cX9_mayBegin : ByteArray := prog_11_method_17_code
def yX9_mayBegin : MethodName := ⟨RX9, "mayBegin", "(I)Z"⟩
abbrev cX9_mayFollow : ByteArray := prog_11_method_18_code
def yX9_mayFollow : MethodName := ⟨RX9, "mayFollow", "(III)Z"⟩
abbrev cX9_readsTwo : ByteArray := prog_11_method_19_code
def yX9_readsTwo : MethodName := ⟨RX9, "readsTwo", "(I)Z"⟩
abbrev cX9_readsSingle : ByteArray := prog_11_method_20_code
def yX9_readsSingle : MethodName := ⟨RX9, "readsSingle", "()Z"⟩
abbrev cX9_readsCode : ByteArray := prog_11_method_21_code
def yX9_readsCode : MethodName := ⟨RX9, "readsCode", "()Z"⟩
abbrev cX9_readsAll : ByteArray := prog_11_method_22_code
def yX9_readsAll : MethodName := ⟨RX9, "readsAll", "()Z"⟩
abbrev cX9_lays : ByteArray := prog_11_method_23_code
def yX9_lays : MethodName := ⟨RX9, "lays", "()V"⟩
abbrev cX9_takes : ByteArray := prog_11_method_24_code
def yX9_takes : MethodName := ⟨RX9, "takes", "()V"⟩
abbrev cX9_tables : ByteArray := prog_11_method_25_code
def yX9_tables : MethodName := ⟨RX9, "tables", "()I"⟩
abbrev cX9_isText : ByteArray := prog_11_method_26_code
def yX9_isText : MethodName := ⟨RX9, "isText", "(I)Z"⟩
abbrev cX9_isRule : ByteArray := prog_11_method_27_code
def yX9_isRule : MethodName := ⟨RX9, "isRule", "(I)Z"⟩
abbrev cX9_notes : ByteArray := prog_11_method_28_code
def yX9_notes : MethodName := ⟨RX9, "notes", "(I)V"⟩
abbrev cX9_adds : ByteArray := prog_11_method_29_code
def yX9_adds : MethodName := ⟨RX9, "adds", "(II)V"⟩
abbrev cX9_puts : ByteArray := prog_11_method_30_code
def yX9_puts : MethodName := ⟨RX9, "puts", "(II)I"⟩
abbrev cX9_cuts : ByteArray := prog_11_method_31_code
def yX9_cuts : MethodName := ⟨RX9, "cuts", "(I)I"⟩
abbrev cX9_appends : ByteArray := prog_11_method_32_code
def yX9_appends : MethodName := ⟨RX9, "appends", "(II)I"⟩
abbrev cX9_comeOut : ByteArray := prog_11_method_33_code
def yX9_comeOut : MethodName := ⟨RX9, "comeOut", "(I)V"⟩
abbrev cX9_addsOut : ByteArray := prog_11_method_34_code
def yX9_addsOut : MethodName := ⟨RX9, "addsOut", "(I)V"⟩
abbrev cX9_asOther : ByteArray := prog_11_method_35_code
def yX9_asOther : MethodName := ⟨RX9, "asOther", "()V"⟩
abbrev cX9_comeApart : ByteArray := prog_11_method_36_code
def yX9_comeApart : MethodName := ⟨RX9, "comeApart", "()V"⟩
abbrev cX9_sorts : ByteArray := prog_11_method_37_code
def yX9_sorts : MethodName := ⟨RX9, "sorts", "()V"⟩
abbrev cX9_joins : ByteArray := prog_11_method_38_code
def yX9_joins : MethodName := ⟨RX9, "joins", "()V"⟩
abbrev cX9_isBlocked : ByteArray := prog_11_method_39_code
def yX9_isBlocked : MethodName := ⟨RX9, "isBlocked", "(II)Z"⟩
abbrev cX9_keepsBases : ByteArray := prog_11_method_40_code
def yX9_keepsBases : MethodName := ⟨RX9, "keepsBases", "()V"⟩
abbrev cX9_turns : ByteArray := prog_11_method_41_code
def yX9_turns : MethodName := ⟨RX9, "turns", "()V"⟩
abbrev cX9_keepsFirst : ByteArray := prog_11_method_42_code
def yX9_keepsFirst : MethodName := ⟨RX9, "keepsFirst", "()V"⟩
abbrev cX9_rules : ByteArray := prog_11_method_43_code
def yX9_rules : MethodName := ⟨RX9, "rules", "(I)V"⟩
abbrev cX9_told : ByteArray := prog_11_method_44_code
def yX9_told : MethodName := ⟨RX9, "told", "(I)I"⟩
abbrev cX9_forms : ByteArray := prog_11_method_45_code
def yX9_forms : MethodName := ⟨RX9, "forms", "(II)I"⟩
abbrev cX9_undo : ByteArray := prog_11_method_46_code
def yX9_undo : MethodName := ⟨RX9, "undo", "()I"⟩
abbrev cX9_at : ByteArray := prog_11_method_47_code
def yX9_at : MethodName := ⟨RX9, "at", "(II)I"⟩
abbrev cX9_ruled : ByteArray := prog_11_method_48_code
def yX9_ruled : MethodName := ⟨RX9, "ruled", "(III)I"⟩
abbrev cX9_keeps : ByteArray := prog_11_method_49_code
def yX9_keeps : MethodName := ⟨RX9, "keeps", "()V"⟩
abbrev cX9_isKept : ByteArray := prog_11_method_50_code
def yX9_isKept : MethodName := ⟨RX9, "isKept", "()Z"⟩
abbrev cX9_isSorted : ByteArray := prog_11_method_51_code
def yX9_isSorted : MethodName := ⟨RX9, "isSorted", "()Z"⟩
abbrev cX9_isSecond : ByteArray := prog_11_method_52_code
def yX9_isSecond : MethodName := ⟨RX9, "isSecond", "(I)Z"⟩
abbrev cX9_quick : ByteArray := prog_11_method_53_code
def yX9_quick : MethodName := ⟨RX9, "quick", "(II)I"⟩
abbrev cX9_same : ByteArray := prog_11_method_54_code
def yX9_same : MethodName := ⟨RX9, "same", "(III)I"⟩
abbrev cX9_seam : ByteArray := prog_11_method_55_code
def yX9_seam : MethodName := ⟨RX9, "seam", "(IIII)I"⟩
abbrev cX9_stands : ByteArray := prog_11_method_56_code
def yX9_stands : MethodName := ⟨RX9, "stands", "(II)Z"⟩
abbrev cX9_spellings : ByteArray := prog_11_method_57_code
def yX9_spellings : MethodName := ⟨RX9, "spellings", "(I)J"⟩
abbrev cX9_pipes : ByteArray := prog_11_method_58_code
def yX9_pipes : MethodName := ⟨RX9, "pipes", "(I)I"⟩
abbrev cX9_unpipe : ByteArray := prog_11_method_59_code
def yX9_unpipe : MethodName := ⟨RX9, "unpipe", "()I"⟩
abbrev cX9_goesThrough : ByteArray := prog_11_method_60_code
def yX9_goesThrough : MethodName := ⟨RX9, "goesThrough", "()V"⟩
abbrev cX9_piped : ByteArray := prog_11_method_61_code
def yX9_piped : MethodName := ⟨RX9, "piped", "(II)I"⟩
abbrev cX9_fixed : ByteArray := prog_11_method_62_code
def yX9_fixed : MethodName := ⟨RX9, "fixed", "(I)I"⟩
abbrev cX9_allMany : ByteArray := prog_11_method_63_code
def yX9_allMany : MethodName := ⟨RX9, "allMany", "()I"⟩
abbrev cX9_keep : ByteArray := prog_11_method_64_code
def yX9_keep : MethodName := ⟨RX9, "keep", "(I)I"⟩
abbrev cX9_back : ByteArray := prog_11_method_65_code
def yX9_back : MethodName := ⟨RX9, "back", "(I)I"⟩
abbrev cX9_marks : ByteArray := prog_11_method_66_code
def yX9_marks : MethodName := ⟨RX9, "marks", "()I"⟩
abbrev cX9_count : ByteArray := prog_11_method_67_code
def yX9_count : MethodName := ⟨RX9, "count", "(I)I"⟩
def RL : String := "MarkOrderLaw"
abbrev cL_law : ByteArray := code
def yL_law : MethodName := ⟨RL, "law", "([I)Z"⟩
abbrev vwCl : List vw_C := [(RX0, TX0, 2), (RX1, TX1, 8), (RX2, TX2, 4), (RX3, TX3, 2), (RX4, TX4, 9), (RX5, TX5, 2), (RX6, TX6, 2), (RX7, TX7, 1), (RX8, TX8, 11), (RX9, TX9, 26)]
abbrev mi_M : Type := MethodName × ByteArray × Nat × Option FieldType
abbrev mX0_init : mi_M := (yX0_init, cX0_init, 2, none)
abbrev mX0_text : mi_M := (yX0_text, cX0_text, 2, (some (.object "MarkOrder$Row")))
abbrev mX0_pipe : mi_M := (yX0_pipe, cX0_pipe, 1, (some (.object "MarkOrder$Row")))
abbrev mX0_total : mi_M := (yX0_total, cX0_total, 3, (some .int))
abbrev mX0_empty : mi_M := (yX0_empty, cX0_empty, 2, none)
abbrev mX0_become : mi_M := (yX0_become, cX0_become, 3, none)
abbrev mX1_init : mi_M := (yX1_init, cX1_init, 1, none)
abbrev mX1_size : mi_M := (yX1_size, cX1_size, 1, (some .int))
abbrev mX1_holds : mi_M := (yX1_holds, cX1_holds, 2, (some .boolean))
abbrev mX1_isFull : mi_M := (yX1_isFull, cX1_isFull, 1, (some .boolean))
abbrev mX1_hasRoomForPair : mi_M := (yX1_hasRoomForPair, cX1_hasRoomForPair, 1, (some .boolean))
abbrev mX1_kindOf : mi_M := (yX1_kindOf, cX1_kindOf, 2, (some .int))
abbrev mX1_classOf : mi_M := (yX1_classOf, cX1_classOf, 2, (some .int))
abbrev mX1_isBase : mi_M := (yX1_isBase, cX1_isBase, 2, (some .boolean))
abbrev mX1_firstOf : mi_M := (yX1_firstOf, cX1_firstOf, 2, (some .int))
abbrev mX1_secondOf : mi_M := (yX1_secondOf, cX1_secondOf, 2, (some .int))
abbrev mX1_pieceCount : mi_M := (yX1_pieceCount, cX1_pieceCount, 2, (some .int))
abbrev mX1_piece : mi_M := (yX1_piece, cX1_piece, 3, (some .int))
abbrev mX1_pairOf : mi_M := (yX1_pairOf, cX1_pairOf, 5, (some .int))
abbrev mX1_isSecondOfPair : mi_M := (yX1_isSecondOfPair, cX1_isSecondOfPair, 3, (some .boolean))
abbrev mX1_piecesStandAt : mi_M := (yX1_piecesStandAt, cX1_piecesStandAt, 5, (some .boolean))
abbrev mX1_countKind : mi_M := (yX1_countKind, cX1_countKind, 4, (some .int))
abbrev mX1_countMarks : mi_M := (yX1_countMarks, cX1_countMarks, 3, (some .int))
abbrev mX1_mayBeFirst : mi_M := (yX1_mayBeFirst, cX1_mayBeFirst, 4, (some .boolean))
abbrev mX1_mayBeSecond : mi_M := (yX1_mayBeSecond, cX1_mayBeSecond, 6, (some .boolean))
abbrev mX1_empty : mi_M := (yX1_empty, cX1_empty, 1, none)
abbrev mX1_add : mi_M := (yX1_add, cX1_add, 5, none)
abbrev mX1_addPiecesOf : mi_M := (yX1_addPiecesOf, cX1_addPiecesOf, 3, none)
abbrev mX1_addPiece : mi_M := (yX1_addPiece, cX1_addPiece, 3, none)
abbrev mX2_init : mi_M := (yX2_init, cX2_init, 2, none)
abbrev mX2_known : mi_M := (yX2_known, cX2_known, 1, (some .int))
abbrev mX2_forget : mi_M := (yX2_forget, cX2_forget, 1, none)
abbrev mX2_remember : mi_M := (yX2_remember, cX2_remember, 4, none)
abbrev mX2_latestText : mi_M := (yX2_latestText, cX2_latestText, 1, (some .int))
abbrev mX2_giveBack : mi_M := (yX2_giveBack, cX2_giveBack, 2, none)
abbrev mX3_init : mi_M := (yX3_init, cX3_init, 2, none)
abbrev mX3_image : mi_M := (yX3_image, cX3_image, 2, (some (.object "MarkOrder$Board")))
abbrev mX3_isKept : mi_M := (yX3_isKept, cX3_isKept, 2, (some .boolean))
abbrev mX3_take : mi_M := (yX3_take, cX3_take, 3, (some .boolean))
abbrev mX3_drop : mi_M := (yX3_drop, cX3_drop, 2, none)
abbrev mX4_init : mi_M := (yX4_init, cX4_init, 1, none)
abbrev mX4_typed : mi_M := (yX4_typed, cX4_typed, 1, (some (.object "MarkOrder$Row")))
abbrev mX4_readInto : mi_M := (yX4_readInto, cX4_readInto, 3, (some .int))
abbrev mX4_readCode : mi_M := (yX4_readCode, cX4_readCode, 3, (some .boolean))
abbrev mX4_readPlain : mi_M := (yX4_readPlain, cX4_readPlain, 1, (some .boolean))
abbrev mX4_readSingle : mi_M := (yX4_readSingle, cX4_readSingle, 2, (some .boolean))
abbrev mX4_readTwo : mi_M := (yX4_readTwo, cX4_readTwo, 3, (some .boolean))
abbrev mX4_step : mi_M := (yX4_step, cX4_step, 1, none)
abbrev mX4_takeLetters : mi_M := (yX4_takeLetters, cX4_takeLetters, 1, none)
abbrev mX4_takeNumber : mi_M := (yX4_takeNumber, cX4_takeNumber, 2, none)
abbrev mX4_isLetter : mi_M := (yX4_isLetter, cX4_isLetter, 1, (some .boolean))
abbrev mX4_isDigit : mi_M := (yX4_isDigit, cX4_isDigit, 1, (some .boolean))
abbrev mX5_init : mi_M := (yX5_init, cX5_init, 2, none)
abbrev mX5_length : mi_M := (yX5_length, cX5_length, 1, (some .int))
abbrev mX5_has : mi_M := (yX5_has, cX5_has, 2, (some .boolean))
abbrev mX5_cell : mi_M := (yX5_cell, cX5_cell, 2, (some .int))
abbrev mX5_setCell : mi_M := (yX5_setCell, cX5_setCell, 3, none)
abbrev mX5_swapWithNext : mi_M := (yX5_swapWithNext, cX5_swapWithNext, 3, none)
abbrev mX5_empty : mi_M := (yX5_empty, cX5_empty, 1, none)
abbrev mX5_push : mi_M := (yX5_push, cX5_push, 2, (some .boolean))
abbrev mX5_shorten : mi_M := (yX5_shorten, cX5_shorten, 2, none)
abbrev mX5_become : mi_M := (yX5_become, cX5_become, 2, none)
abbrev mX5_extend : mi_M := (yX5_extend, cX5_extend, 4, none)
abbrev mX5_isLike : mi_M := (yX5_isLike, cX5_isLike, 2, (some .boolean))
abbrev mX5_alikeAhead : mi_M := (yX5_alikeAhead, cX5_alikeAhead, 4, (some .int))
abbrev mX5_alikeBehind : mi_M := (yX5_alikeBehind, cX5_alikeBehind, 4, (some .int))
abbrev mX6_init : mi_M := (yX6_init, cX6_init, 1, none)
abbrev mX6_make : mi_M := (yX6_make, cX6_make, 5, none)
abbrev mX6_makeOfBoth : mi_M := (yX6_makeOfBoth, cX6_makeOfBoth, 6, none)
abbrev mX6_goThrough : mi_M := (yX6_goThrough, cX6_goThrough, 5, none)
abbrev mX6_isSorted : mi_M := (yX6_isSorted, cX6_isSorted, 5, (some .boolean))
abbrev mX6_takeApart : mi_M := (yX6_takeApart, cX6_takeApart, 7, none)
abbrev mX6_sort : mi_M := (yX6_sort, cX6_sort, 6, none)
abbrev mX6_join : mi_M := (yX6_join, cX6_join, 12, none)
abbrev mX6_dropMarks : mi_M := (yX6_dropMarks, cX6_dropMarks, 7, none)
abbrev mX6_turn : mi_M := (yX6_turn, cX6_turn, 4, none)
abbrev mX6_takeFirst : mi_M := (yX6_takeFirst, cX6_takeFirst, 7, none)
abbrev mX7_init : mi_M := (yX7_init, cX7_init, 1, none)
abbrev mX7_waysToSpell : mi_M := (yX7_waysToSpell, cX7_waysToSpell, 5, (some .long))
abbrev mX7_waysUpTo : mi_M := (yX7_waysUpTo, cX7_waysUpTo, 8, (some .long))
abbrev mX8_init : mi_M := (yX8_init, cX8_init, 1, none)
abbrev mX8_type : mi_M := (yX8_type, cX8_type, 3, (some .int))
abbrev mX8_clear : mi_M := (yX8_clear, cX8_clear, 3, (some .int))
abbrev mX8_tables : mi_M := (yX8_tables, cX8_tables, 3, (some .int))
abbrev mX8_code : mi_M := (yX8_code, cX8_code, 3, (some .int))
abbrev mX8_pair : mi_M := (yX8_pair, cX8_pair, 3, (some .int))
abbrev mX8_puts : mi_M := (yX8_puts, cX8_puts, 4, (some .int))
abbrev mX8_cuts : mi_M := (yX8_cuts, cX8_cuts, 5, (some .int))
abbrev mX8_appends : mi_M := (yX8_appends, cX8_appends, 5, (some .int))
abbrev mX8_forms : mi_M := (yX8_forms, cX8_forms, 4, (some .int))
abbrev mX8_undo : mi_M := (yX8_undo, cX8_undo, 2, (some .int))
abbrev mX8_at : mi_M := (yX8_at, cX8_at, 4, (some .int))
abbrev mX8_ruled : mi_M := (yX8_ruled, cX8_ruled, 5, (some .int))
abbrev mX8_quick : mi_M := (yX8_quick, cX8_quick, 4, (some .int))
abbrev mX8_same : mi_M := (yX8_same, cX8_same, 6, (some .int))
abbrev mX8_seam : mi_M := (yX8_seam, cX8_seam, 9, (some .int))
abbrev mX8_spellings : mi_M := (yX8_spellings, cX8_spellings, 3, (some .long))
abbrev mX8_pipes : mi_M := (yX8_pipes, cX8_pipes, 3, (some .int))
abbrev mX8_unpipe : mi_M := (yX8_unpipe, cX8_unpipe, 3, (some .int))
abbrev mX8_piped : mi_M := (yX8_piped, cX8_piped, 4, (some .int))
abbrev mX8_fixed : mi_M := (yX8_fixed, cX8_fixed, 4, (some .int))
abbrev mX8_keep : mi_M := (yX8_keep, cX8_keep, 2, (some .int))
abbrev mX8_back : mi_M := (yX8_back, cX8_back, 3, (some .int))
abbrev mX8_count : mi_M := (yX8_count, cX8_count, 2, (some .int))
abbrev mX8_isRule : mi_M := (yX8_isRule, cX8_isRule, 1, (some .boolean))
abbrev mX8_look : mi_M := (yX8_look, cX8_look, 2, (some .int))
abbrev mX8_quickApart : mi_M := (yX8_quickApart, cX8_quickApart, 3, (some .int))
abbrev mX8_quickJoined : mi_M := (yX8_quickJoined, cX8_quickJoined, 6, (some .int))
abbrev mX9_init : mi_M := (yX9_init, cX9_init, 1, none)
abbrev mX9_in : mi_M := (yX9_in, cX9_in, 3, (some .boolean))
abbrev mX9_isCode : mi_M := (yX9_isCode, cX9_isCode, 2, (some .boolean))
abbrev mX9_sortMany : mi_M := (yX9_sortMany, cX9_sortMany, 4, (some .int))
abbrev mX9_pairOf : mi_M := (yX9_pairOf, cX9_pairOf, 5, (some .int))
abbrev mX9_comes : mi_M := (yX9_comes, cX9_comes, 7, none)
abbrev mX9_comesPiece : mi_M := (yX9_comesPiece, cX9_comesPiece, 3, none)
abbrev mX9_code : mi_M := (yX9_code, cX9_code, 3, (some .int))
abbrev mX9_pair : mi_M := (yX9_pair, cX9_pair, 3, (some .int))
abbrev mX9_type : mi_M := (yX9_type, cX9_type, 2, (some .int))
abbrev mX9_clear : mi_M := (yX9_clear, cX9_clear, 2, (some .int))
abbrev mX9_here : mi_M := (yX9_here, cX9_here, 1, (some .int))
abbrev mX9_skip : mi_M := (yX9_skip, cX9_skip, 1, none)
abbrev mX9_number : mi_M := (yX9_number, cX9_number, 5, (some .boolean))
abbrev mX9_ends : mi_M := (yX9_ends, cX9_ends, 1, (some .boolean))
abbrev mX9_readsPlain : mi_M := (yX9_readsPlain, cX9_readsPlain, 1, (some .boolean))
abbrev mX9_mayBegin : mi_M := (yX9_mayBegin, cX9_mayBegin, 2, (some .boolean))
abbrev mX9_mayFollow : mi_M := (yX9_mayFollow, cX9_mayFollow, 5, (some .boolean))
abbrev mX9_readsTwo : mi_M := (yX9_readsTwo, cX9_readsTwo, 5, (some .boolean))
abbrev mX9_readsSingle : mi_M := (yX9_readsSingle, cX9_readsSingle, 1, (some .boolean))
abbrev mX9_readsCode : mi_M := (yX9_readsCode, cX9_readsCode, 4, (some .boolean))
abbrev mX9_readsAll : mi_M := (yX9_readsAll, cX9_readsAll, 1, (some .boolean))
abbrev mX9_lays : mi_M := (yX9_lays, cX9_lays, 2, none)
abbrev mX9_takes : mi_M := (yX9_takes, cX9_takes, 3, none)
abbrev mX9_tables : mi_M := (yX9_tables, cX9_tables, 2, (some .int))
abbrev mX9_isText : mi_M := (yX9_isText, cX9_isText, 1, (some .boolean))
abbrev mX9_isRule : mi_M := (yX9_isRule, cX9_isRule, 1, (some .boolean))
abbrev mX9_notes : mi_M := (yX9_notes, cX9_notes, 4, none)
abbrev mX9_adds : mi_M := (yX9_adds, cX9_adds, 3, none)
abbrev mX9_puts : mi_M := (yX9_puts, cX9_puts, 3, (some .int))
abbrev mX9_cuts : mi_M := (yX9_cuts, cX9_cuts, 2, (some .int))
abbrev mX9_appends : mi_M := (yX9_appends, cX9_appends, 5, (some .int))
abbrev mX9_comeOut : mi_M := (yX9_comeOut, cX9_comeOut, 2, none)
abbrev mX9_addsOut : mi_M := (yX9_addsOut, cX9_addsOut, 3, none)
abbrev mX9_asOther : mi_M := (yX9_asOther, cX9_asOther, 2, none)
abbrev mX9_comeApart : mi_M := (yX9_comeApart, cX9_comeApart, 4, none)
abbrev mX9_sorts : mi_M := (yX9_sorts, cX9_sorts, 4, none)
abbrev mX9_joins : mi_M := (yX9_joins, cX9_joins, 5, none)
abbrev mX9_isBlocked : mi_M := (yX9_isBlocked, cX9_isBlocked, 5, (some .boolean))
abbrev mX9_keepsBases : mi_M := (yX9_keepsBases, cX9_keepsBases, 2, none)
abbrev mX9_turns : mi_M := (yX9_turns, cX9_turns, 2, none)
abbrev mX9_keepsFirst : mi_M := (yX9_keepsFirst, cX9_keepsFirst, 5, none)
abbrev mX9_rules : mi_M := (yX9_rules, cX9_rules, 2, none)
abbrev mX9_told : mi_M := (yX9_told, cX9_told, 2, (some .int))
abbrev mX9_forms : mi_M := (yX9_forms, cX9_forms, 4, (some .int))
abbrev mX9_undo : mi_M := (yX9_undo, cX9_undo, 4, (some .int))
abbrev mX9_at : mi_M := (yX9_at, cX9_at, 3, (some .int))
abbrev mX9_ruled : mi_M := (yX9_ruled, cX9_ruled, 4, (some .int))
abbrev mX9_keeps : mi_M := (yX9_keeps, cX9_keeps, 2, none)
abbrev mX9_isKept : mi_M := (yX9_isKept, cX9_isKept, 3, (some .boolean))
abbrev mX9_isSorted : mi_M := (yX9_isSorted, cX9_isSorted, 1, (some .boolean))
abbrev mX9_isSecond : mi_M := (yX9_isSecond, cX9_isSecond, 4, (some .boolean))
abbrev mX9_quick : mi_M := (yX9_quick, cX9_quick, 8, (some .int))
abbrev mX9_same : mi_M := (yX9_same, cX9_same, 4, (some .int))
abbrev mX9_seam : mi_M := (yX9_seam, cX9_seam, 7, (some .int))
abbrev mX9_stands : mi_M := (yX9_stands, cX9_stands, 5, (some .boolean))
abbrev mX9_spellings : mi_M := (yX9_spellings, cX9_spellings, 6, (some .long))
abbrev mX9_pipes : mi_M := (yX9_pipes, cX9_pipes, 2, (some .int))
abbrev mX9_unpipe : mi_M := (yX9_unpipe, cX9_unpipe, 2, (some .int))
abbrev mX9_goesThrough : mi_M := (yX9_goesThrough, cX9_goesThrough, 2, none)
abbrev mX9_piped : mi_M := (yX9_piped, cX9_piped, 3, (some .int))
abbrev mX9_fixed : mi_M := (yX9_fixed, cX9_fixed, 3, (some .int))
abbrev mX9_allMany : mi_M := (yX9_allMany, cX9_allMany, 1, (some .int))
abbrev mX9_keep : mi_M := (yX9_keep, cX9_keep, 4, (some .int))
abbrev mX9_back : mi_M := (yX9_back, cX9_back, 4, (some .int))
abbrev mX9_marks : mi_M := (yX9_marks, cX9_marks, 3, (some .int))
abbrev mX9_count : mi_M := (yX9_count, cX9_count, 2, (some .int))
/-- the tables' words that stay -/
def gw : List Cond := lw_tbl.filter goodWord
theorem gw_t {w : Cond} (i : Nat) (h : tables_1[i]? = some w) (hg : goodWord w = true) : w ∈ gw := List.mem_filter.mpr ⟨List.mem_append_right _ (List.mem_of_getElem? h), hg⟩
theorem gw_s {w : Cond} (i : Nat) (h : (k2_sels lw_privs)[i]? = some w) (hg : goodWord w = true) : w ∈ gw := List.mem_filter.mpr ⟨List.mem_append_left _ (List.mem_of_getElem? h), hg⟩
theorem gw_ok {args : Array Value} {s : State} (h : ∀ w ∈ lw_tbl, w.before args s = true) : ∀ w ∈ gw, w.before args s = true := fun w hw => h w (List.mem_filter.mp hw).1
theorem gw_good : ∀ w ∈ gw, (w.onTables && w.keeps) = true ∨ ∃ ty, w = .arrayClass ty := fun w hw => good_of_word (List.mem_filter.mp hw).2
end
section
/-- what a call of a method takes of the tables -/
def mi_ce (M : mi_M) (n : Nat) : Prop := Cond.code M.1 M.2.1 M.2.2.1 M.2.2.2 ∈ gw ∧ Cond.initialized M.1.cls ∈ gw ∧ (M.1.cls ≠ "java/lang/invoke/MethodHandle" ∧ M.1.cls ≠ "java/lang/invoke/VarHandle" ∧ (parseMethodDescriptor M.1.desc).map (fun d => d.parameters.length) = some n)
def mi_cv (M : mi_M) (n ci : Nat) : Prop := mi_ce M n ∧ Cond.instanceMethod M.1 ∈ gw ∧ Cond.selects M.1.cls M.1 M.1 ∈ gw ∧ ∃ (T : u_T) (N : Nat), vwCl[ci]? = some (M.1.cls, T, N)
def mi_cs (M : mi_M) (n : Nat) : Prop := mi_ce M n ∧ Cond.static M.1 ∈ gw
def mi_ci (M : mi_M) (n : Nat) : Prop := mi_ce M n ∧ Cond.instanceMethod M.1 ∈ gw ∧ M.1.name = "<init>"
/-- a field's link: own class, index, class and size of the object, place; final; a reference -/
def mi_rfs : List (List Bool) := [[true, true], [true, true, true, true, true, true, true, false], [true, true, false, false], [true, true], [true, false, false, false, false, false, false, false, false], [true, false], [true, true], [true], [true, true, true, true, true, true, true, true, true, true, true], [false, true, true, true, true, true, true, true, false, false, false, true, true, true, false, true, true, false, false, true, false, true, false, true, true, true]]
def mi_rf (ci f : Nat) : Bool := (mi_rfs.getD ci []).getD f false
def mi_fl (own : String) (idx ci N f : Nat) (fin rf : Bool) : Prop := ∃ (C : String) (T : u_T) (ty0 : Nat → FieldType), ci < 10 ∧ f < N ∧ vwCl[ci]? = some (C, T, N) ∧ Cond.fieldLink own idx C (T f).2.1 (T f).2.2.1 ∈ gw ∧ (∀ w ∈ u_ws C T N, w ∈ gw) ∧ (T f).1 = C ∧ (∀ k, k < N → parseFieldDescriptor (T k).2.2.1 = some (ty0 k)) ∧ (∀ a, a < N → ∀ b, b < N → a ≠ b → (T a).2.1 ≠ (T b).2.1) ∧ (T f).2.2.2 = fin ∧ mi_rf ci f = rf ∧ (match rf with
  | true => (∃ x, ty0 f = .object x) ∨ ∃ x, ty0 f = .array x
  | false => ty0 f = .int)
/-- a class that is made -/
def mi_cn (own : String) (idx ci N : Nat) : Prop := ∃ (C : String) (T : u_T) (ty0 : Nat → FieldType), ci < 10 ∧ vwCl[ci]? = some (C, T, N) ∧ Cond.classLink own idx C ∈ gw ∧ Cond.instantiable C N ∈ gw ∧ Cond.initialized C ∈ gw ∧ (∀ w ∈ u_ws C T N, w ∈ gw) ∧ (∀ k, k < N → parseFieldDescriptor (T k).2.2.1 = some (ty0 k)) ∧ (∀ k, k < N → match mi_rf ci k with
  | true => (∃ x, ty0 k = .object x) ∨ ∃ x, ty0 k = .array x
  | false => ty0 k = .int)

theorem gwc_0 : ∀ w ∈ u_ws RX0 TX0 2, w ∈ gw := by
  intro w hw
  obtain ⟨k, hk, rfl⟩ := List.mem_map.mp hw
  have hk := List.mem_range.mp hk
  rcases (show k = 0 ∨ k = 1 by omega) with rfl | rfl
  · exact gw_t 115 (by decide +kernel) rfl
  · exact gw_t 117 (by decide +kernel) rfl
theorem gwc_1 : ∀ w ∈ u_ws RX1 TX1 8, w ∈ gw := by
  intro w hw
  obtain ⟨k, hk, rfl⟩ := List.mem_map.mp hw
  have hk := List.mem_range.mp hk
  rcases (show k = 0 ∨ k = 1 ∨ k = 2 ∨ k = 3 ∨ k = 4 ∨ k = 5 ∨ k = 6 ∨ k = 7 by omega) with rfl | rfl | rfl | rfl | rfl | rfl | rfl | rfl
  · exact gw_t 87 (by decide +kernel) rfl
  · exact gw_t 89 (by decide +kernel) rfl
  · exact gw_t 91 (by decide +kernel) rfl
  · exact gw_t 93 (by decide +kernel) rfl
  · exact gw_t 95 (by decide +kernel) rfl
  · exact gw_t 97 (by decide +kernel) rfl
  · exact gw_t 99 (by decide +kernel) rfl
  · exact gw_t 101 (by decide +kernel) rfl
theorem gwc_2 : ∀ w ∈ u_ws RX2 TX2 4, w ∈ gw := by
  intro w hw
  obtain ⟨k, hk, rfl⟩ := List.mem_map.mp hw
  have hk := List.mem_range.mp hk
  rcases (show k = 0 ∨ k = 1 ∨ k = 2 ∨ k = 3 by omega) with rfl | rfl | rfl | rfl
  · exact gw_t 149 (by decide +kernel) rfl
  · exact gw_t 151 (by decide +kernel) rfl
  · exact gw_t 153 (by decide +kernel) rfl
  · exact gw_t 155 (by decide +kernel) rfl
theorem gwc_3 : ∀ w ∈ u_ws RX3 TX3 2, w ∈ gw := by
  intro w hw
  obtain ⟨k, hk, rfl⟩ := List.mem_map.mp hw
  have hk := List.mem_range.mp hk
  rcases (show k = 0 ∨ k = 1 by omega) with rfl | rfl
  · exact gw_t 131 (by decide +kernel) rfl
  · exact gw_t 133 (by decide +kernel) rfl
theorem gwc_4 : ∀ w ∈ u_ws RX4 TX4 9, w ∈ gw := by
  intro w hw
  obtain ⟨k, hk, rfl⟩ := List.mem_map.mp hw
  have hk := List.mem_range.mp hk
  rcases (show k = 0 ∨ k = 1 ∨ k = 2 ∨ k = 3 ∨ k = 4 ∨ k = 5 ∨ k = 6 ∨ k = 7 ∨ k = 8 by omega) with rfl | rfl | rfl | rfl | rfl | rfl | rfl | rfl | rfl
  · exact gw_t 52 (by decide +kernel) rfl
  · exact gw_t 54 (by decide +kernel) rfl
  · exact gw_t 56 (by decide +kernel) rfl
  · exact gw_t 58 (by decide +kernel) rfl
  · exact gw_t 60 (by decide +kernel) rfl
  · exact gw_t 62 (by decide +kernel) rfl
  · exact gw_t 64 (by decide +kernel) rfl
  · exact gw_t 66 (by decide +kernel) rfl
  · exact gw_t 68 (by decide +kernel) rfl
theorem gwc_5 : ∀ w ∈ u_ws RX5 TX5 2, w ∈ gw := by
  intro w hw
  obtain ⟨k, hk, rfl⟩ := List.mem_map.mp hw
  have hk := List.mem_range.mp hk
  rcases (show k = 0 ∨ k = 1 by omega) with rfl | rfl
  · exact gw_t 37 (by decide +kernel) rfl
  · exact gw_t 39 (by decide +kernel) rfl
theorem gwc_6 : ∀ w ∈ u_ws RX6 TX6 2, w ∈ gw := by
  intro w hw
  obtain ⟨k, hk, rfl⟩ := List.mem_map.mp hw
  have hk := List.mem_range.mp hk
  rcases (show k = 0 ∨ k = 1 by omega) with rfl | rfl
  · exact gw_t 168 (by decide +kernel) rfl
  · exact gw_t 170 (by decide +kernel) rfl
theorem gwc_7 : ∀ w ∈ u_ws RX7 TX7 1, w ∈ gw := by
  intro w hw
  obtain ⟨k, hk, rfl⟩ := List.mem_map.mp hw
  have hk := List.mem_range.mp hk
  rcases (show k = 0 by omega) with rfl
  · exact gw_t 180 (by decide +kernel) rfl
theorem gwc_8 : ∀ w ∈ u_ws RX8 TX8 11, w ∈ gw := by
  intro w hw
  obtain ⟨k, hk, rfl⟩ := List.mem_map.mp hw
  have hk := List.mem_range.mp hk
  rcases (show k = 0 ∨ k = 1 ∨ k = 2 ∨ k = 3 ∨ k = 4 ∨ k = 5 ∨ k = 6 ∨ k = 7 ∨ k = 8 ∨ k = 9 ∨ k = 10 by omega) with rfl | rfl | rfl | rfl | rfl | rfl | rfl | rfl | rfl | rfl | rfl
  · exact gw_t 197 (by decide +kernel) rfl
  · exact gw_t 199 (by decide +kernel) rfl
  · exact gw_t 201 (by decide +kernel) rfl
  · exact gw_t 203 (by decide +kernel) rfl
  · exact gw_t 205 (by decide +kernel) rfl
  · exact gw_t 207 (by decide +kernel) rfl
  · exact gw_t 209 (by decide +kernel) rfl
  · exact gw_t 211 (by decide +kernel) rfl
  · exact gw_t 213 (by decide +kernel) rfl
  · exact gw_t 215 (by decide +kernel) rfl
  · exact gw_t 217 (by decide +kernel) rfl
theorem gwc_9 : ∀ w ∈ u_ws RX9 TX9 26, w ∈ gw := by
  intro w hw
  obtain ⟨k, hk, rfl⟩ := List.mem_map.mp hw
  have hk := List.mem_range.mp hk
  rcases (show k = 0 ∨ k = 1 ∨ k = 2 ∨ k = 3 ∨ k = 4 ∨ k = 5 ∨ k = 6 ∨ k = 7 ∨ k = 8 ∨ k = 9 ∨ k = 10 ∨ k = 11 ∨ k = 12 ∨ k = 13 ∨ k = 14 ∨ k = 15 ∨ k = 16 ∨ k = 17 ∨ k = 18 ∨ k = 19 ∨ k = 20 ∨ k = 21 ∨ k = 22 ∨ k = 23 ∨ k = 24 ∨ k = 25 by omega) with rfl | rfl | rfl | rfl | rfl | rfl | rfl | rfl | rfl | rfl | rfl | rfl | rfl | rfl | rfl | rfl | rfl | rfl | rfl | rfl | rfl | rfl | rfl | rfl | rfl | rfl
  · exact gw_t 700 (by decide +kernel) rfl
  · exact gw_t 702 (by decide +kernel) rfl
  · exact gw_t 704 (by decide +kernel) rfl
  · exact gw_t 706 (by decide +kernel) rfl
  · exact gw_t 708 (by decide +kernel) rfl
  · exact gw_t 710 (by decide +kernel) rfl
  · exact gw_t 712 (by decide +kernel) rfl
  · exact gw_t 714 (by decide +kernel) rfl
  · exact gw_t 716 (by decide +kernel) rfl
  · exact gw_t 718 (by decide +kernel) rfl
  · exact gw_t 720 (by decide +kernel) rfl
  · exact gw_t 722 (by decide +kernel) rfl
  · exact gw_t 724 (by decide +kernel) rfl
  · exact gw_t 726 (by decide +kernel) rfl
  · exact gw_t 728 (by decide +kernel) rfl
  · exact gw_t 730 (by decide +kernel) rfl
  · exact gw_t 732 (by decide +kernel) rfl
  · exact gw_t 734 (by decide +kernel) rfl
  · exact gw_t 736 (by decide +kernel) rfl
  · exact gw_t 738 (by decide +kernel) rfl
  · exact gw_t 740 (by decide +kernel) rfl
  · exact gw_t 742 (by decide +kernel) rfl
  · exact gw_t 744 (by decide +kernel) rfl
  · exact gw_t 746 (by decide +kernel) rfl
  · exact gw_t 748 (by decide +kernel) rfl
  · exact gw_t 750 (by decide +kernel) rfl
theorem fl_X5_15 : mi_fl RX5 15 5 2 0 true true := ⟨RX5, TX5, tyX5, by decide, by decide, rfl, gw_t 35 (by decide +kernel) rfl, gwc_5, rfl, tyX5_ok, nmX5, rfl, rfl, Or.inr ⟨_, rfl⟩⟩
theorem fl_X5_21 : mi_fl RX5 21 5 2 1 false false := ⟨RX5, TX5, tyX5, by decide, by decide, rfl, gw_t 36 (by decide +kernel) rfl, gwc_5, rfl, tyX5_ok, nmX5, rfl, rfl, rfl⟩
theorem fl_X4_14 : mi_fl RX4 14 4 9 0 true true := ⟨RX4, TX4, tyX4, by decide, by decide, rfl, gw_t 43 (by decide +kernel) rfl, gwc_4, rfl, tyX4_ok, nmX4, rfl, rfl, Or.inl ⟨_, rfl⟩⟩
theorem fl_X4_25 : mi_fl RX4 25 4 9 1 false false := ⟨RX4, TX4, tyX4, by decide, by decide, rfl, gw_t 44 (by decide +kernel) rfl, gwc_4, rfl, tyX4_ok, nmX4, rfl, rfl, rfl⟩
theorem fl_X4_39 : mi_fl RX4 39 4 9 2 false false := ⟨RX4, TX4, tyX4, by decide, by decide, rfl, gw_t 45 (by decide +kernel) rfl, gwc_4, rfl, tyX4_ok, nmX4, rfl, rfl, rfl⟩
theorem fl_X4_32 : mi_fl RX4 32 4 9 3 false false := ⟨RX4, TX4, tyX4, by decide, by decide, rfl, gw_t 46 (by decide +kernel) rfl, gwc_4, rfl, tyX4_ok, nmX4, rfl, rfl, rfl⟩
theorem fl_X4_62 : mi_fl RX4 62 4 9 4 false false := ⟨RX4, TX4, tyX4, by decide, by decide, rfl, gw_t 47 (by decide +kernel) rfl, gwc_4, rfl, tyX4_ok, nmX4, rfl, rfl, rfl⟩
theorem fl_X4_42 : mi_fl RX4 42 4 9 5 false false := ⟨RX4, TX4, tyX4, by decide, by decide, rfl, gw_t 48 (by decide +kernel) rfl, gwc_4, rfl, tyX4_ok, nmX4, rfl, rfl, rfl⟩
theorem fl_X4_45 : mi_fl RX4 45 4 9 6 false false := ⟨RX4, TX4, tyX4, by decide, by decide, rfl, gw_t 49 (by decide +kernel) rfl, gwc_4, rfl, tyX4_ok, nmX4, rfl, rfl, rfl⟩
theorem fl_X4_48 : mi_fl RX4 48 4 9 7 false false := ⟨RX4, TX4, tyX4, by decide, by decide, rfl, gw_t 50 (by decide +kernel) rfl, gwc_4, rfl, tyX4_ok, nmX4, rfl, rfl, rfl⟩
theorem fl_X4_51 : mi_fl RX4 51 4 9 8 false false := ⟨RX4, TX4, tyX4, by decide, by decide, rfl, gw_t 51 (by decide +kernel) rfl, gwc_4, rfl, tyX4_ok, nmX4, rfl, rfl, rfl⟩
theorem fl_X1_9 : mi_fl RX1 9 1 8 0 true true := ⟨RX1, TX1, tyX1, by decide, by decide, rfl, gw_t 79 (by decide +kernel) rfl, gwc_1, rfl, tyX1_ok, nmX1, rfl, rfl, Or.inr ⟨_, rfl⟩⟩
theorem fl_X1_15 : mi_fl RX1 15 1 8 1 true true := ⟨RX1, TX1, tyX1, by decide, by decide, rfl, gw_t 80 (by decide +kernel) rfl, gwc_1, rfl, tyX1_ok, nmX1, rfl, rfl, Or.inr ⟨_, rfl⟩⟩
theorem fl_X1_18 : mi_fl RX1 18 1 8 2 true true := ⟨RX1, TX1, tyX1, by decide, by decide, rfl, gw_t 81 (by decide +kernel) rfl, gwc_1, rfl, tyX1_ok, nmX1, rfl, rfl, Or.inr ⟨_, rfl⟩⟩
theorem fl_X1_21 : mi_fl RX1 21 1 8 3 true true := ⟨RX1, TX1, tyX1, by decide, by decide, rfl, gw_t 82 (by decide +kernel) rfl, gwc_1, rfl, tyX1_ok, nmX1, rfl, rfl, Or.inr ⟨_, rfl⟩⟩
theorem fl_X1_24 : mi_fl RX1 24 1 8 4 true true := ⟨RX1, TX1, tyX1, by decide, by decide, rfl, gw_t 83 (by decide +kernel) rfl, gwc_1, rfl, tyX1_ok, nmX1, rfl, rfl, Or.inr ⟨_, rfl⟩⟩
theorem fl_X1_27 : mi_fl RX1 27 1 8 5 true true := ⟨RX1, TX1, tyX1, by decide, by decide, rfl, gw_t 84 (by decide +kernel) rfl, gwc_1, rfl, tyX1_ok, nmX1, rfl, rfl, Or.inr ⟨_, rfl⟩⟩
theorem fl_X1_35 : mi_fl RX1 35 1 8 6 true true := ⟨RX1, TX1, tyX1, by decide, by decide, rfl, gw_t 85 (by decide +kernel) rfl, gwc_1, rfl, tyX1_ok, nmX1, rfl, rfl, Or.inl ⟨_, rfl⟩⟩
theorem fl_X1_39 : mi_fl RX1 39 1 8 7 false false := ⟨RX1, TX1, tyX1, by decide, by decide, rfl, gw_t 86 (by decide +kernel) rfl, gwc_1, rfl, tyX1_ok, nmX1, rfl, rfl, rfl⟩
theorem fl_X0_11 : mi_fl RX0 11 0 2 0 true true := ⟨RX0, TX0, tyX0, by decide, by decide, rfl, gw_t 113 (by decide +kernel) rfl, gwc_0, rfl, tyX0_ok, nmX0, rfl, rfl, Or.inr ⟨_, rfl⟩⟩
theorem fl_X0_20 : mi_fl RX0 20 0 2 1 true true := ⟨RX0, TX0, tyX0, by decide, by decide, rfl, gw_t 114 (by decide +kernel) rfl, gwc_0, rfl, tyX0_ok, nmX0, rfl, rfl, Or.inl ⟨_, rfl⟩⟩
theorem fl_X3_11 : mi_fl RX3 11 3 2 0 true true := ⟨RX3, TX3, tyX3, by decide, by decide, rfl, gw_t 129 (by decide +kernel) rfl, gwc_3, rfl, tyX3_ok, nmX3, rfl, rfl, Or.inr ⟨_, rfl⟩⟩
theorem fl_X3_17 : mi_fl RX3 17 3 2 1 true true := ⟨RX3, TX3, tyX3, by decide, by decide, rfl, gw_t 130 (by decide +kernel) rfl, gwc_3, rfl, tyX3_ok, nmX3, rfl, rfl, Or.inr ⟨_, rfl⟩⟩
theorem fl_X2_11 : mi_fl RX2 11 2 4 0 true true := ⟨RX2, TX2, tyX2, by decide, by decide, rfl, gw_t 145 (by decide +kernel) rfl, gwc_2, rfl, tyX2_ok, nmX2, rfl, rfl, Or.inr ⟨_, rfl⟩⟩
theorem fl_X2_17 : mi_fl RX2 17 2 4 1 true true := ⟨RX2, TX2, tyX2, by decide, by decide, rfl, gw_t 146 (by decide +kernel) rfl, gwc_2, rfl, tyX2_ok, nmX2, rfl, rfl, Or.inr ⟨_, rfl⟩⟩
theorem fl_X2_24 : mi_fl RX2 24 2 4 2 false false := ⟨RX2, TX2, tyX2, by decide, by decide, rfl, gw_t 147 (by decide +kernel) rfl, gwc_2, rfl, tyX2_ok, nmX2, rfl, rfl, rfl⟩
theorem fl_X2_28 : mi_fl RX2 28 2 4 3 false false := ⟨RX2, TX2, tyX2, by decide, by decide, rfl, gw_t 148 (by decide +kernel) rfl, gwc_2, rfl, tyX2_ok, nmX2, rfl, rfl, rfl⟩
theorem fl_X6_14 : mi_fl RX6 14 6 2 0 true true := ⟨RX6, TX6, tyX6, by decide, by decide, rfl, gw_t 166 (by decide +kernel) rfl, gwc_6, rfl, tyX6_ok, nmX6, rfl, rfl, Or.inl ⟨_, rfl⟩⟩
theorem fl_X6_20 : mi_fl RX6 20 6 2 1 true true := ⟨RX6, TX6, tyX6, by decide, by decide, rfl, gw_t 167 (by decide +kernel) rfl, gwc_6, rfl, tyX6_ok, nmX6, rfl, rfl, Or.inl ⟨_, rfl⟩⟩
theorem fl_X7_9 : mi_fl RX7 9 7 1 0 true true := ⟨RX7, TX7, tyX7, by decide, by decide, rfl, gw_t 179 (by decide +kernel) rfl, gwc_7, rfl, tyX7_ok, nmX7, rfl, rfl, Or.inr ⟨_, rfl⟩⟩
theorem fl_X8_12 : mi_fl RX8 12 8 11 0 true true := ⟨RX8, TX8, tyX8, by decide, by decide, rfl, gw_t 186 (by decide +kernel) rfl, gwc_8, rfl, tyX8_ok, nmX8, rfl, rfl, Or.inl ⟨_, rfl⟩⟩
theorem fl_X8_19 : mi_fl RX8 19 8 11 1 false true := ⟨RX8, TX8, tyX8, by decide, by decide, rfl, gw_t 187 (by decide +kernel) rfl, gwc_8, rfl, tyX8_ok, nmX8, rfl, rfl, Or.inl ⟨_, rfl⟩⟩
theorem fl_X8_23 : mi_fl RX8 23 8 11 2 false true := ⟨RX8, TX8, tyX8, by decide, by decide, rfl, gw_t 188 (by decide +kernel) rfl, gwc_8, rfl, tyX8_ok, nmX8, rfl, rfl, Or.inl ⟨_, rfl⟩⟩
theorem fl_X8_29 : mi_fl RX8 29 8 11 3 true true := ⟨RX8, TX8, tyX8, by decide, by decide, rfl, gw_t 189 (by decide +kernel) rfl, gwc_8, rfl, tyX8_ok, nmX8, rfl, rfl, Or.inl ⟨_, rfl⟩⟩
theorem fl_X8_36 : mi_fl RX8 36 8 11 4 true true := ⟨RX8, TX8, tyX8, by decide, by decide, rfl, gw_t 190 (by decide +kernel) rfl, gwc_8, rfl, tyX8_ok, nmX8, rfl, rfl, Or.inl ⟨_, rfl⟩⟩
theorem fl_X8_43 : mi_fl RX8 43 8 11 5 true true := ⟨RX8, TX8, tyX8, by decide, by decide, rfl, gw_t 191 (by decide +kernel) rfl, gwc_8, rfl, tyX8_ok, nmX8, rfl, rfl, Or.inl ⟨_, rfl⟩⟩
theorem fl_X8_50 : mi_fl RX8 50 8 11 6 true true := ⟨RX8, TX8, tyX8, by decide, by decide, rfl, gw_t 192 (by decide +kernel) rfl, gwc_8, rfl, tyX8_ok, nmX8, rfl, rfl, Or.inl ⟨_, rfl⟩⟩
theorem fl_X8_57 : mi_fl RX8 57 8 11 7 true true := ⟨RX8, TX8, tyX8, by decide, by decide, rfl, gw_t 193 (by decide +kernel) rfl, gwc_8, rfl, tyX8_ok, nmX8, rfl, rfl, Or.inl ⟨_, rfl⟩⟩
theorem fl_X8_66 : mi_fl RX8 66 8 11 8 true true := ⟨RX8, TX8, tyX8, by decide, by decide, rfl, gw_t 194 (by decide +kernel) rfl, gwc_8, rfl, tyX8_ok, nmX8, rfl, rfl, Or.inl ⟨_, rfl⟩⟩
theorem fl_X8_70 : mi_fl RX8 70 8 11 9 true true := ⟨RX8, TX8, tyX8, by decide, by decide, rfl, gw_t 195 (by decide +kernel) rfl, gwc_8, rfl, tyX8_ok, nmX8, rfl, rfl, Or.inl ⟨_, rfl⟩⟩
theorem fl_X8_73 : mi_fl RX8 73 8 11 10 true true := ⟨RX8, TX8, tyX8, by decide, by decide, rfl, gw_t 196 (by decide +kernel) rfl, gwc_8, rfl, tyX8_ok, nmX8, rfl, rfl, Or.inl ⟨_, rfl⟩⟩
theorem fl_X9_62 : mi_fl RX9 62 9 26 0 false false := ⟨RX9, TX9, tyX9, by decide, by decide, rfl, gw_t 674 (by decide +kernel) rfl, gwc_9, rfl, tyX9_ok, nmX9, rfl, rfl, rfl⟩
theorem fl_X9_7 : mi_fl RX9 7 9 26 1 true true := ⟨RX9, TX9, tyX9, by decide, by decide, rfl, gw_t 675 (by decide +kernel) rfl, gwc_9, rfl, tyX9_ok, nmX9, rfl, rfl, Or.inr ⟨_, rfl⟩⟩
theorem fl_X9_13 : mi_fl RX9 13 9 26 2 true true := ⟨RX9, TX9, tyX9, by decide, by decide, rfl, gw_t 676 (by decide +kernel) rfl, gwc_9, rfl, tyX9_ok, nmX9, rfl, rfl, Or.inr ⟨_, rfl⟩⟩
theorem fl_X9_16 : mi_fl RX9 16 9 26 3 true true := ⟨RX9, TX9, tyX9, by decide, by decide, rfl, gw_t 677 (by decide +kernel) rfl, gwc_9, rfl, tyX9_ok, nmX9, rfl, rfl, Or.inr ⟨_, rfl⟩⟩
theorem fl_X9_19 : mi_fl RX9 19 9 26 4 true true := ⟨RX9, TX9, tyX9, by decide, by decide, rfl, gw_t 678 (by decide +kernel) rfl, gwc_9, rfl, tyX9_ok, nmX9, rfl, rfl, Or.inr ⟨_, rfl⟩⟩
theorem fl_X9_22 : mi_fl RX9 22 9 26 5 true true := ⟨RX9, TX9, tyX9, by decide, by decide, rfl, gw_t 679 (by decide +kernel) rfl, gwc_9, rfl, tyX9_ok, nmX9, rfl, rfl, Or.inr ⟨_, rfl⟩⟩
theorem fl_X9_25 : mi_fl RX9 25 9 26 6 true true := ⟨RX9, TX9, tyX9, by decide, by decide, rfl, gw_t 680 (by decide +kernel) rfl, gwc_9, rfl, tyX9_ok, nmX9, rfl, rfl, Or.inr ⟨_, rfl⟩⟩
theorem fl_X9_28 : mi_fl RX9 28 9 26 7 true true := ⟨RX9, TX9, tyX9, by decide, by decide, rfl, gw_t 681 (by decide +kernel) rfl, gwc_9, rfl, tyX9_ok, nmX9, rfl, rfl, Or.inr ⟨_, rfl⟩⟩
theorem fl_X9_82 : mi_fl RX9 82 9 26 8 false false := ⟨RX9, TX9, tyX9, by decide, by decide, rfl, gw_t 682 (by decide +kernel) rfl, gwc_9, rfl, tyX9_ok, nmX9, rfl, rfl, rfl⟩
theorem fl_X9_85 : mi_fl RX9 85 9 26 9 false false := ⟨RX9, TX9, tyX9, by decide, by decide, rfl, gw_t 683 (by decide +kernel) rfl, gwc_9, rfl, tyX9_ok, nmX9, rfl, rfl, rfl⟩
theorem fl_X9_95 : mi_fl RX9 95 9 26 10 false false := ⟨RX9, TX9, tyX9, by decide, by decide, rfl, gw_t 684 (by decide +kernel) rfl, gwc_9, rfl, tyX9_ok, nmX9, rfl, rfl, rfl⟩
theorem fl_X9_31 : mi_fl RX9 31 9 26 11 true true := ⟨RX9, TX9, tyX9, by decide, by decide, rfl, gw_t 685 (by decide +kernel) rfl, gwc_9, rfl, tyX9_ok, nmX9, rfl, rfl, Or.inr ⟨_, rfl⟩⟩
theorem fl_X9_34 : mi_fl RX9 34 9 26 12 true true := ⟨RX9, TX9, tyX9, by decide, by decide, rfl, gw_t 686 (by decide +kernel) rfl, gwc_9, rfl, tyX9_ok, nmX9, rfl, rfl, Or.inr ⟨_, rfl⟩⟩
theorem fl_X9_37 : mi_fl RX9 37 9 26 13 true true := ⟨RX9, TX9, tyX9, by decide, by decide, rfl, gw_t 687 (by decide +kernel) rfl, gwc_9, rfl, tyX9_ok, nmX9, rfl, rfl, Or.inr ⟨_, rfl⟩⟩
theorem fl_X9_141 : mi_fl RX9 141 9 26 14 false false := ⟨RX9, TX9, tyX9, by decide, by decide, rfl, gw_t 688 (by decide +kernel) rfl, gwc_9, rfl, tyX9_ok, nmX9, rfl, rfl, rfl⟩
theorem fl_X9_40 : mi_fl RX9 40 9 26 15 true true := ⟨RX9, TX9, tyX9, by decide, by decide, rfl, gw_t 689 (by decide +kernel) rfl, gwc_9, rfl, tyX9_ok, nmX9, rfl, rfl, Or.inr ⟨_, rfl⟩⟩
theorem fl_X9_43 : mi_fl RX9 43 9 26 16 true true := ⟨RX9, TX9, tyX9, by decide, by decide, rfl, gw_t 690 (by decide +kernel) rfl, gwc_9, rfl, tyX9_ok, nmX9, rfl, rfl, Or.inr ⟨_, rfl⟩⟩
theorem fl_X9_144 : mi_fl RX9 144 9 26 17 false false := ⟨RX9, TX9, tyX9, by decide, by decide, rfl, gw_t 691 (by decide +kernel) rfl, gwc_9, rfl, tyX9_ok, nmX9, rfl, rfl, rfl⟩
theorem fl_X9_157 : mi_fl RX9 157 9 26 18 false false := ⟨RX9, TX9, tyX9, by decide, by decide, rfl, gw_t 692 (by decide +kernel) rfl, gwc_9, rfl, tyX9_ok, nmX9, rfl, rfl, rfl⟩
theorem fl_X9_46 : mi_fl RX9 46 9 26 19 true true := ⟨RX9, TX9, tyX9, by decide, by decide, rfl, gw_t 693 (by decide +kernel) rfl, gwc_9, rfl, tyX9_ok, nmX9, rfl, rfl, Or.inr ⟨_, rfl⟩⟩
theorem fl_X9_163 : mi_fl RX9 163 9 26 20 false false := ⟨RX9, TX9, tyX9, by decide, by decide, rfl, gw_t 694 (by decide +kernel) rfl, gwc_9, rfl, tyX9_ok, nmX9, rfl, rfl, rfl⟩
theorem fl_X9_49 : mi_fl RX9 49 9 26 21 true true := ⟨RX9, TX9, tyX9, by decide, by decide, rfl, gw_t 695 (by decide +kernel) rfl, gwc_9, rfl, tyX9_ok, nmX9, rfl, rfl, Or.inr ⟨_, rfl⟩⟩
theorem fl_X9_202 : mi_fl RX9 202 9 26 22 false false := ⟨RX9, TX9, tyX9, by decide, by decide, rfl, gw_t 696 (by decide +kernel) rfl, gwc_9, rfl, tyX9_ok, nmX9, rfl, rfl, rfl⟩
theorem fl_X9_52 : mi_fl RX9 52 9 26 23 true true := ⟨RX9, TX9, tyX9, by decide, by decide, rfl, gw_t 697 (by decide +kernel) rfl, gwc_9, rfl, tyX9_ok, nmX9, rfl, rfl, Or.inr ⟨_, rfl⟩⟩
theorem fl_X9_55 : mi_fl RX9 55 9 26 24 true true := ⟨RX9, TX9, tyX9, by decide, by decide, rfl, gw_t 698 (by decide +kernel) rfl, gwc_9, rfl, tyX9_ok, nmX9, rfl, rfl, Or.inr ⟨_, rfl⟩⟩
theorem fl_X9_59 : mi_fl RX9 59 9 26 25 true true := ⟨RX9, TX9, tyX9, by decide, by decide, rfl, gw_t 699 (by decide +kernel) rfl, gwc_9, rfl, tyX9_ok, nmX9, rfl, rfl, Or.inr ⟨_, rfl⟩⟩
theorem cn_L_7 : mi_cn RL 7 8 11 := ⟨RX8, TX8, tyX8, by decide, rfl, gw_t 12 (by decide +kernel) rfl, gw_t 13 (by decide +kernel) rfl, gw_t 1 (by decide +kernel) rfl, gwc_8, tyX8_ok, by
  intro k hk
  rcases (show k = 0 ∨ k = 1 ∨ k = 2 ∨ k = 3 ∨ k = 4 ∨ k = 5 ∨ k = 6 ∨ k = 7 ∨ k = 8 ∨ k = 9 ∨ k = 10 by omega) with rfl | rfl | rfl | rfl | rfl | rfl | rfl | rfl | rfl | rfl | rfl
  · exact Or.inl ⟨_, rfl⟩
  · exact Or.inl ⟨_, rfl⟩
  · exact Or.inl ⟨_, rfl⟩
  · exact Or.inl ⟨_, rfl⟩
  · exact Or.inl ⟨_, rfl⟩
  · exact Or.inl ⟨_, rfl⟩
  · exact Or.inl ⟨_, rfl⟩
  · exact Or.inl ⟨_, rfl⟩
  · exact Or.inl ⟨_, rfl⟩
  · exact Or.inl ⟨_, rfl⟩
  · exact Or.inl ⟨_, rfl⟩⟩
theorem cn_X8_9 : mi_cn RX8 9 4 9 := ⟨RX4, TX4, tyX4, by decide, rfl, gw_t 20 (by decide +kernel) rfl, gw_t 21 (by decide +kernel) rfl, gw_t 2 (by decide +kernel) rfl, gwc_4, tyX4_ok, by
  intro k hk
  rcases (show k = 0 ∨ k = 1 ∨ k = 2 ∨ k = 3 ∨ k = 4 ∨ k = 5 ∨ k = 6 ∨ k = 7 ∨ k = 8 by omega) with rfl | rfl | rfl | rfl | rfl | rfl | rfl | rfl | rfl
  · exact Or.inl ⟨_, rfl⟩
  · exact rfl
  · exact rfl
  · exact rfl
  · exact rfl
  · exact rfl
  · exact rfl
  · exact rfl
  · exact rfl⟩
theorem cn_X4_9 : mi_cn RX4 9 5 2 := ⟨RX5, TX5, tyX5, by decide, rfl, gw_t 26 (by decide +kernel) rfl, gw_t 27 (by decide +kernel) rfl, gw_t 3 (by decide +kernel) rfl, gwc_5, tyX5_ok, by
  intro k hk
  rcases (show k = 0 ∨ k = 1 by omega) with rfl | rfl
  · exact Or.inr ⟨_, rfl⟩
  · exact rfl⟩
theorem cn_X8_16 : mi_cn RX8 16 1 8 := ⟨RX1, TX1, tyX1, by decide, rfl, gw_t 71 (by decide +kernel) rfl, gw_t 72 (by decide +kernel) rfl, gw_t 5 (by decide +kernel) rfl, gwc_1, tyX1_ok, by
  intro k hk
  rcases (show k = 0 ∨ k = 1 ∨ k = 2 ∨ k = 3 ∨ k = 4 ∨ k = 5 ∨ k = 6 ∨ k = 7 by omega) with rfl | rfl | rfl | rfl | rfl | rfl | rfl | rfl
  · exact Or.inr ⟨_, rfl⟩
  · exact Or.inr ⟨_, rfl⟩
  · exact Or.inr ⟨_, rfl⟩
  · exact Or.inr ⟨_, rfl⟩
  · exact Or.inr ⟨_, rfl⟩
  · exact Or.inr ⟨_, rfl⟩
  · exact Or.inl ⟨_, rfl⟩
  · exact rfl⟩
theorem cn_X1_30 : mi_cn RX1 30 5 2 := ⟨RX5, TX5, tyX5, by decide, rfl, gw_t 77 (by decide +kernel) rfl, gw_t 27 (by decide +kernel) rfl, gw_t 3 (by decide +kernel) rfl, gwc_5, tyX5_ok, by
  intro k hk
  rcases (show k = 0 ∨ k = 1 by omega) with rfl | rfl
  · exact Or.inr ⟨_, rfl⟩
  · exact rfl⟩
theorem cn_X8_26 : mi_cn RX8 26 0 2 := ⟨RX0, TX0, tyX0, by decide, rfl, gw_t 104 (by decide +kernel) rfl, gw_t 105 (by decide +kernel) rfl, gw_t 6 (by decide +kernel) rfl, gwc_0, tyX0_ok, by
  intro k hk
  rcases (show k = 0 ∨ k = 1 by omega) with rfl | rfl
  · exact Or.inr ⟨_, rfl⟩
  · exact Or.inl ⟨_, rfl⟩⟩
theorem cn_X0_9 : mi_cn RX0 9 5 2 := ⟨RX5, TX5, tyX5, by decide, rfl, gw_t 110 (by decide +kernel) rfl, gw_t 27 (by decide +kernel) rfl, gw_t 3 (by decide +kernel) rfl, gwc_5, tyX5_ok, by
  intro k hk
  rcases (show k = 0 ∨ k = 1 by omega) with rfl | rfl
  · exact Or.inr ⟨_, rfl⟩
  · exact rfl⟩
theorem cn_X8_33 : mi_cn RX8 33 3 2 := ⟨RX3, TX3, tyX3, by decide, rfl, gw_t 120 (by decide +kernel) rfl, gw_t 121 (by decide +kernel) rfl, gw_t 7 (by decide +kernel) rfl, gwc_3, tyX3_ok, by
  intro k hk
  rcases (show k = 0 ∨ k = 1 by omega) with rfl | rfl
  · exact Or.inr ⟨_, rfl⟩
  · exact Or.inr ⟨_, rfl⟩⟩
theorem cn_X3_9 : mi_cn RX3 9 0 2 := ⟨RX0, TX0, tyX0, by decide, rfl, gw_t 126 (by decide +kernel) rfl, gw_t 105 (by decide +kernel) rfl, gw_t 6 (by decide +kernel) rfl, gwc_0, tyX0_ok, by
  intro k hk
  rcases (show k = 0 ∨ k = 1 by omega) with rfl | rfl
  · exact Or.inr ⟨_, rfl⟩
  · exact Or.inl ⟨_, rfl⟩⟩
theorem cn_X8_40 : mi_cn RX8 40 2 4 := ⟨RX2, TX2, tyX2, by decide, rfl, gw_t 137 (by decide +kernel) rfl, gw_t 138 (by decide +kernel) rfl, gw_t 8 (by decide +kernel) rfl, gwc_2, tyX2_ok, by
  intro k hk
  rcases (show k = 0 ∨ k = 1 ∨ k = 2 ∨ k = 3 by omega) with rfl | rfl | rfl | rfl
  · exact Or.inr ⟨_, rfl⟩
  · exact Or.inr ⟨_, rfl⟩
  · exact rfl
  · exact rfl⟩
theorem cn_X2_9 : mi_cn RX2 9 5 2 := ⟨RX5, TX5, tyX5, by decide, rfl, gw_t 143 (by decide +kernel) rfl, gw_t 27 (by decide +kernel) rfl, gw_t 3 (by decide +kernel) rfl, gwc_5, tyX5_ok, by
  intro k hk
  rcases (show k = 0 ∨ k = 1 by omega) with rfl | rfl
  · exact Or.inr ⟨_, rfl⟩
  · exact rfl⟩
theorem cn_X8_47 : mi_cn RX8 47 6 2 := ⟨RX6, TX6, tyX6, by decide, rfl, gw_t 158 (by decide +kernel) rfl, gw_t 159 (by decide +kernel) rfl, gw_t 9 (by decide +kernel) rfl, gwc_6, tyX6_ok, by
  intro k hk
  rcases (show k = 0 ∨ k = 1 by omega) with rfl | rfl
  · exact Or.inl ⟨_, rfl⟩
  · exact Or.inl ⟨_, rfl⟩⟩
theorem cn_X6_9 : mi_cn RX6 9 5 2 := ⟨RX5, TX5, tyX5, by decide, rfl, gw_t 164 (by decide +kernel) rfl, gw_t 27 (by decide +kernel) rfl, gw_t 3 (by decide +kernel) rfl, gwc_5, tyX5_ok, by
  intro k hk
  rcases (show k = 0 ∨ k = 1 by omega) with rfl | rfl
  · exact Or.inr ⟨_, rfl⟩
  · exact rfl⟩
theorem cn_X8_54 : mi_cn RX8 54 7 1 := ⟨RX7, TX7, tyX7, by decide, rfl, gw_t 173 (by decide +kernel) rfl, gw_t 174 (by decide +kernel) rfl, gw_t 10 (by decide +kernel) rfl, gwc_7, tyX7_ok, by
  intro k hk
  rcases (show k = 0 by omega) with rfl
  · exact Or.inr ⟨_, rfl⟩⟩
theorem cn_X8_61 : mi_cn RX8 61 5 2 := ⟨RX5, TX5, tyX5, by decide, rfl, gw_t 184 (by decide +kernel) rfl, gw_t 27 (by decide +kernel) rfl, gw_t 3 (by decide +kernel) rfl, gwc_5, tyX5_ok, by
  intro k hk
  rcases (show k = 0 ∨ k = 1 by omega) with rfl | rfl
  · exact Or.inr ⟨_, rfl⟩
  · exact rfl⟩
theorem cn_L_10 : mi_cn RL 10 9 26 := ⟨RX9, TX9, tyX9, by decide, rfl, gw_t 668 (by decide +kernel) rfl, gw_t 669 (by decide +kernel) rfl, gw_t 11 (by decide +kernel) rfl, gwc_9, tyX9_ok, by
  intro k hk
  rcases (show k = 0 ∨ k = 1 ∨ k = 2 ∨ k = 3 ∨ k = 4 ∨ k = 5 ∨ k = 6 ∨ k = 7 ∨ k = 8 ∨ k = 9 ∨ k = 10 ∨ k = 11 ∨ k = 12 ∨ k = 13 ∨ k = 14 ∨ k = 15 ∨ k = 16 ∨ k = 17 ∨ k = 18 ∨ k = 19 ∨ k = 20 ∨ k = 21 ∨ k = 22 ∨ k = 23 ∨ k = 24 ∨ k = 25 by omega) with rfl | rfl | rfl | rfl | rfl | rfl | rfl | rfl | rfl | rfl | rfl | rfl | rfl | rfl | rfl | rfl | rfl | rfl | rfl | rfl | rfl | rfl | rfl | rfl | rfl | rfl
  · exact rfl
  · exact Or.inr ⟨_, rfl⟩
  · exact Or.inr ⟨_, rfl⟩
  · exact Or.inr ⟨_, rfl⟩
  · exact Or.inr ⟨_, rfl⟩
  · exact Or.inr ⟨_, rfl⟩
  · exact Or.inr ⟨_, rfl⟩
  · exact Or.inr ⟨_, rfl⟩
  · exact rfl
  · exact rfl
  · exact rfl
  · exact Or.inr ⟨_, rfl⟩
  · exact Or.inr ⟨_, rfl⟩
  · exact Or.inr ⟨_, rfl⟩
  · exact rfl
  · exact Or.inr ⟨_, rfl⟩
  · exact Or.inr ⟨_, rfl⟩
  · exact rfl
  · exact rfl
  · exact Or.inr ⟨_, rfl⟩
  · exact rfl
  · exact Or.inr ⟨_, rfl⟩
  · exact rfl
  · exact Or.inr ⟨_, rfl⟩
  · exact Or.inr ⟨_, rfl⟩
  · exact Or.inr ⟨_, rfl⟩⟩
theorem ke_X0_init : mi_ci mX0_init 0 := ⟨⟨gw_t 108 (by decide +kernel) rfl, gw_t 6 (by decide +kernel) rfl, by decide +kernel⟩, gw_t 107 (by decide +kernel) rfl, rfl⟩
theorem ke_X0_text : mi_cv mX0_text 1 0 := ⟨⟨gw_t 404 (by decide +kernel) rfl, gw_t 6 (by decide +kernel) rfl, by decide +kernel⟩, gw_t 402 (by decide +kernel) rfl, gw_t 403 (by decide +kernel) rfl, _, _, rfl⟩
theorem ke_X0_pipe : mi_cv mX0_pipe 0 0 := ⟨⟨gw_t 607 (by decide +kernel) rfl, gw_t 6 (by decide +kernel) rfl, by decide +kernel⟩, gw_t 605 (by decide +kernel) rfl, gw_t 606 (by decide +kernel) rfl, _, _, rfl⟩
theorem ke_X0_total : mi_cv mX0_total 0 0 := ⟨⟨gw_t 640 (by decide +kernel) rfl, gw_t 6 (by decide +kernel) rfl, by decide +kernel⟩, gw_t 638 (by decide +kernel) rfl, gw_t 639 (by decide +kernel) rfl, _, _, rfl⟩
theorem ke_X0_empty : mi_cv mX0_empty 0 0 := ⟨⟨gw_t 367 (by decide +kernel) rfl, gw_t 6 (by decide +kernel) rfl, by decide +kernel⟩, gw_t 365 (by decide +kernel) rfl, gw_t 366 (by decide +kernel) rfl, _, _, rfl⟩
theorem ke_X0_become : mi_cv mX0_become 1 0 := ⟨⟨gw_t 635 (by decide +kernel) rfl, gw_t 6 (by decide +kernel) rfl, by decide +kernel⟩, gw_t 633 (by decide +kernel) rfl, gw_t 634 (by decide +kernel) rfl, _, _, rfl⟩
theorem ke_X1_init : mi_ci mX1_init 0 := ⟨⟨gw_t 75 (by decide +kernel) rfl, gw_t 5 (by decide +kernel) rfl, by decide +kernel⟩, gw_t 74 (by decide +kernel) rfl, rfl⟩
theorem ke_X1_size : mi_cv mX1_size 0 1 := ⟨⟨gw_t 380 (by decide +kernel) rfl, gw_t 5 (by decide +kernel) rfl, by decide +kernel⟩, gw_t 378 (by decide +kernel) rfl, gw_t 379 (by decide +kernel) rfl, _, _, rfl⟩
theorem ke_X1_holds : mi_cv mX1_holds 1 1 := ⟨⟨gw_t 315 (by decide +kernel) rfl, gw_t 5 (by decide +kernel) rfl, by decide +kernel⟩, gw_t 313 (by decide +kernel) rfl, gw_t 314 (by decide +kernel) rfl, _, _, rfl⟩
theorem ke_X1_isFull : mi_cv mX1_isFull 0 1 := ⟨⟨gw_t 290 (by decide +kernel) rfl, gw_t 5 (by decide +kernel) rfl, by decide +kernel⟩, gw_t 288 (by decide +kernel) rfl, gw_t 289 (by decide +kernel) rfl, _, _, rfl⟩
theorem ke_X1_hasRoomForPair : mi_cv mX1_hasRoomForPair 0 1 := ⟨⟨gw_t 298 (by decide +kernel) rfl, gw_t 5 (by decide +kernel) rfl, by decide +kernel⟩, gw_t 296 (by decide +kernel) rfl, gw_t 297 (by decide +kernel) rfl, _, _, rfl⟩
theorem ke_X1_kindOf : mi_cv mX1_kindOf 1 1 := ⟨⟨gw_t 311 (by decide +kernel) rfl, gw_t 5 (by decide +kernel) rfl, by decide +kernel⟩, gw_t 309 (by decide +kernel) rfl, gw_t 310 (by decide +kernel) rfl, _, _, rfl⟩
theorem ke_X1_classOf : mi_cv mX1_classOf 1 1 := ⟨⟨gw_t 319 (by decide +kernel) rfl, gw_t 5 (by decide +kernel) rfl, by decide +kernel⟩, gw_t 317 (by decide +kernel) rfl, gw_t 318 (by decide +kernel) rfl, _, _, rfl⟩
theorem ke_X1_isBase : mi_cv mX1_isBase 1 1 := ⟨⟨gw_t 487 (by decide +kernel) rfl, gw_t 5 (by decide +kernel) rfl, by decide +kernel⟩, gw_t 485 (by decide +kernel) rfl, gw_t 486 (by decide +kernel) rfl, _, _, rfl⟩
theorem ke_X1_firstOf : mi_cv mX1_firstOf 1 1 := ⟨⟨gw_t 340 (by decide +kernel) rfl, gw_t 5 (by decide +kernel) rfl, by decide +kernel⟩, gw_t 338 (by decide +kernel) rfl, gw_t 339 (by decide +kernel) rfl, _, _, rfl⟩
theorem ke_X1_secondOf : mi_cv mX1_secondOf 1 1 := ⟨⟨gw_t 344 (by decide +kernel) rfl, gw_t 5 (by decide +kernel) rfl, by decide +kernel⟩, gw_t 342 (by decide +kernel) rfl, gw_t 343 (by decide +kernel) rfl, _, _, rfl⟩
theorem ke_X1_pieceCount : mi_cv mX1_pieceCount 1 1 := ⟨⟨gw_t 323 (by decide +kernel) rfl, gw_t 5 (by decide +kernel) rfl, by decide +kernel⟩, gw_t 321 (by decide +kernel) rfl, gw_t 322 (by decide +kernel) rfl, _, _, rfl⟩
theorem ke_X1_piece : mi_cv mX1_piece 2 1 := ⟨⟨gw_t 331 (by decide +kernel) rfl, gw_t 5 (by decide +kernel) rfl, by decide +kernel⟩, gw_t 329 (by decide +kernel) rfl, gw_t 330 (by decide +kernel) rfl, _, _, rfl⟩
theorem ke_X1_pairOf : mi_cv mX1_pairOf 2 1 := ⟨⟨gw_t 335 (by decide +kernel) rfl, gw_t 5 (by decide +kernel) rfl, by decide +kernel⟩, gw_t 333 (by decide +kernel) rfl, gw_t 334 (by decide +kernel) rfl, _, _, rfl⟩
theorem ke_X1_isSecondOfPair : mi_cv mX1_isSecondOfPair 1 1 := ⟨⟨gw_t 544 (by decide +kernel) rfl, gw_t 5 (by decide +kernel) rfl, by decide +kernel⟩, gw_t 542 (by decide +kernel) rfl, gw_t 543 (by decide +kernel) rfl, _, _, rfl⟩
theorem ke_X1_piecesStandAt : mi_cv mX1_piecesStandAt 3 1 := ⟨⟨gw_t 594 (by decide +kernel) rfl, gw_t 5 (by decide +kernel) rfl, by decide +kernel⟩, gw_t 592 (by decide +kernel) rfl, gw_t 593 (by decide +kernel) rfl, _, _, rfl⟩
theorem ke_X1_countKind : mi_cv mX1_countKind 1 1 := ⟨⟨gw_t 667 (by decide +kernel) rfl, gw_t 5 (by decide +kernel) rfl, by decide +kernel⟩, gw_t 665 (by decide +kernel) rfl, gw_t 666 (by decide +kernel) rfl, _, _, rfl⟩
theorem ke_X1_countMarks : mi_cv mX1_countMarks 0 1 := ⟨⟨gw_t 662 (by decide +kernel) rfl, gw_t 5 (by decide +kernel) rfl, by decide +kernel⟩, gw_t 660 (by decide +kernel) rfl, gw_t 661 (by decide +kernel) rfl, _, _, rfl⟩
theorem ke_X1_mayBeFirst : mi_cv mX1_mayBeFirst 1 1 := ⟨⟨gw_t 307 (by decide +kernel) rfl, gw_t 5 (by decide +kernel) rfl, by decide +kernel⟩, gw_t 305 (by decide +kernel) rfl, gw_t 306 (by decide +kernel) rfl, _, _, rfl⟩
theorem ke_X1_mayBeSecond : mi_cv mX1_mayBeSecond 3 1 := ⟨⟨gw_t 327 (by decide +kernel) rfl, gw_t 5 (by decide +kernel) rfl, by decide +kernel⟩, gw_t 325 (by decide +kernel) rfl, gw_t 326 (by decide +kernel) rfl, _, _, rfl⟩
theorem ke_X1_empty : mi_cv mX1_empty 0 1 := ⟨⟨gw_t 255 (by decide +kernel) rfl, gw_t 5 (by decide +kernel) rfl, by decide +kernel⟩, gw_t 253 (by decide +kernel) rfl, gw_t 254 (by decide +kernel) rfl, _, _, rfl⟩
theorem ke_X1_add : mi_cv mX1_add 4 1 := ⟨⟨gw_t 354 (by decide +kernel) rfl, gw_t 5 (by decide +kernel) rfl, by decide +kernel⟩, gw_t 352 (by decide +kernel) rfl, gw_t 353 (by decide +kernel) rfl, _, _, rfl⟩
theorem ke_X1_addPiecesOf : mi_cv mX1_addPiecesOf 1 1 := ⟨⟨gw_t 362 (by decide +kernel) rfl, gw_t 5 (by decide +kernel) rfl, by decide +kernel⟩, gw_t 361 (by decide +kernel) rfl, gw_s 8 (by decide +kernel) rfl, _, _, rfl⟩
theorem ke_X1_addPiece : mi_cv mX1_addPiece 1 1 := ⟨⟨gw_t 358 (by decide +kernel) rfl, gw_t 5 (by decide +kernel) rfl, by decide +kernel⟩, gw_t 357 (by decide +kernel) rfl, gw_s 7 (by decide +kernel) rfl, _, _, rfl⟩
theorem ke_X2_init : mi_ci mX2_init 0 := ⟨⟨gw_t 141 (by decide +kernel) rfl, gw_t 8 (by decide +kernel) rfl, by decide +kernel⟩, gw_t 140 (by decide +kernel) rfl, rfl⟩
theorem ke_X2_known : mi_cv mX2_known 0 2 := ⟨⟨gw_t 512 (by decide +kernel) rfl, gw_t 8 (by decide +kernel) rfl, by decide +kernel⟩, gw_t 510 (by decide +kernel) rfl, gw_t 511 (by decide +kernel) rfl, _, _, rfl⟩
theorem ke_X2_forget : mi_cv mX2_forget 0 2 := ⟨⟨gw_t 376 (by decide +kernel) rfl, gw_t 8 (by decide +kernel) rfl, by decide +kernel⟩, gw_t 374 (by decide +kernel) rfl, gw_t 375 (by decide +kernel) rfl, _, _, rfl⟩
theorem ke_X2_remember : mi_cv mX2_remember 2 2 := ⟨⟨gw_t 408 (by decide +kernel) rfl, gw_t 8 (by decide +kernel) rfl, by decide +kernel⟩, gw_t 406 (by decide +kernel) rfl, gw_t 407 (by decide +kernel) rfl, _, _, rfl⟩
theorem ke_X2_latestText : mi_cv mX2_latestText 0 2 := ⟨⟨gw_t 504 (by decide +kernel) rfl, gw_t 8 (by decide +kernel) rfl, by decide +kernel⟩, gw_t 502 (by decide +kernel) rfl, gw_t 503 (by decide +kernel) rfl, _, _, rfl⟩
theorem ke_X2_giveBack : mi_cv mX2_giveBack 1 2 := ⟨⟨gw_t 508 (by decide +kernel) rfl, gw_t 8 (by decide +kernel) rfl, by decide +kernel⟩, gw_t 506 (by decide +kernel) rfl, gw_t 507 (by decide +kernel) rfl, _, _, rfl⟩
theorem ke_X3_init : mi_ci mX3_init 0 := ⟨⟨gw_t 124 (by decide +kernel) rfl, gw_t 7 (by decide +kernel) rfl, by decide +kernel⟩, gw_t 123 (by decide +kernel) rfl, rfl⟩
theorem ke_X3_image : mi_cv mX3_image 1 3 := ⟨⟨gw_t 649 (by decide +kernel) rfl, gw_t 7 (by decide +kernel) rfl, by decide +kernel⟩, gw_t 647 (by decide +kernel) rfl, gw_t 648 (by decide +kernel) rfl, _, _, rfl⟩
theorem ke_X3_isKept : mi_cv mX3_isKept 1 3 := ⟨⟨gw_t 653 (by decide +kernel) rfl, gw_t 7 (by decide +kernel) rfl, by decide +kernel⟩, gw_t 651 (by decide +kernel) rfl, gw_t 652 (by decide +kernel) rfl, _, _, rfl⟩
theorem ke_X3_take : mi_cv mX3_take 2 3 := ⟨⟨gw_t 631 (by decide +kernel) rfl, gw_t 7 (by decide +kernel) rfl, by decide +kernel⟩, gw_t 629 (by decide +kernel) rfl, gw_t 630 (by decide +kernel) rfl, _, _, rfl⟩
theorem ke_X3_drop : mi_cv mX3_drop 0 3 := ⟨⟨gw_t 372 (by decide +kernel) rfl, gw_t 7 (by decide +kernel) rfl, by decide +kernel⟩, gw_t 370 (by decide +kernel) rfl, gw_t 371 (by decide +kernel) rfl, _, _, rfl⟩
theorem ke_X4_init : mi_ci mX4_init 0 := ⟨⟨gw_t 24 (by decide +kernel) rfl, gw_t 2 (by decide +kernel) rfl, by decide +kernel⟩, gw_t 23 (by decide +kernel) rfl, rfl⟩
theorem ke_X4_typed : mi_cv mX4_typed 0 4 := ⟨⟨gw_t 227 (by decide +kernel) rfl, gw_t 2 (by decide +kernel) rfl, by decide +kernel⟩, gw_t 225 (by decide +kernel) rfl, gw_t 226 (by decide +kernel) rfl, _, _, rfl⟩
theorem ke_X4_readInto : mi_cv mX4_readInto 1 4 := ⟨⟨gw_t 251 (by decide +kernel) rfl, gw_t 2 (by decide +kernel) rfl, by decide +kernel⟩, gw_t 249 (by decide +kernel) rfl, gw_t 250 (by decide +kernel) rfl, _, _, rfl⟩
theorem ke_X4_readCode : mi_cv mX4_readCode 1 4 := ⟨⟨gw_t 286 (by decide +kernel) rfl, gw_t 2 (by decide +kernel) rfl, by decide +kernel⟩, gw_t 285 (by decide +kernel) rfl, gw_s 3 (by decide +kernel) rfl, _, _, rfl⟩
theorem ke_X4_readPlain : mi_cv mX4_readPlain 0 4 := ⟨⟨gw_t 294 (by decide +kernel) rfl, gw_t 2 (by decide +kernel) rfl, by decide +kernel⟩, gw_t 293 (by decide +kernel) rfl, gw_s 4 (by decide +kernel) rfl, _, _, rfl⟩
theorem ke_X4_readSingle : mi_cv mX4_readSingle 1 4 := ⟨⟨gw_t 348 (by decide +kernel) rfl, gw_t 2 (by decide +kernel) rfl, by decide +kernel⟩, gw_t 347 (by decide +kernel) rfl, gw_s 6 (by decide +kernel) rfl, _, _, rfl⟩
theorem ke_X4_readTwo : mi_cv mX4_readTwo 2 4 := ⟨⟨gw_t 303 (by decide +kernel) rfl, gw_t 2 (by decide +kernel) rfl, by decide +kernel⟩, gw_t 302 (by decide +kernel) rfl, gw_s 5 (by decide +kernel) rfl, _, _, rfl⟩
theorem ke_X4_step : mi_cv mX4_step 0 4 := ⟨⟨gw_t 260 (by decide +kernel) rfl, gw_t 2 (by decide +kernel) rfl, by decide +kernel⟩, gw_t 259 (by decide +kernel) rfl, gw_s 0 (by decide +kernel) rfl, _, _, rfl⟩
theorem ke_X4_takeLetters : mi_cv mX4_takeLetters 0 4 := ⟨⟨gw_t 272 (by decide +kernel) rfl, gw_t 2 (by decide +kernel) rfl, by decide +kernel⟩, gw_t 271 (by decide +kernel) rfl, gw_s 1 (by decide +kernel) rfl, _, _, rfl⟩
theorem ke_X4_takeNumber : mi_cv mX4_takeNumber 0 4 := ⟨⟨gw_t 279 (by decide +kernel) rfl, gw_t 2 (by decide +kernel) rfl, by decide +kernel⟩, gw_t 278 (by decide +kernel) rfl, gw_s 2 (by decide +kernel) rfl, _, _, rfl⟩
theorem ke_X4_isLetter : mi_cs mX4_isLetter 1 := ⟨⟨gw_t 268 (by decide +kernel) rfl, gw_t 2 (by decide +kernel) rfl, by decide +kernel⟩, gw_t 267 (by decide +kernel) rfl⟩
theorem ke_X4_isDigit : mi_cs mX4_isDigit 1 := ⟨⟨gw_t 275 (by decide +kernel) rfl, gw_t 2 (by decide +kernel) rfl, by decide +kernel⟩, gw_t 274 (by decide +kernel) rfl⟩
theorem ke_X5_init : mi_ci mX5_init 1 := ⟨⟨gw_t 30 (by decide +kernel) rfl, gw_t 3 (by decide +kernel) rfl, by decide +kernel⟩, gw_t 29 (by decide +kernel) rfl, rfl⟩
theorem ke_X5_length : mi_cv mX5_length 0 5 := ⟨⟨gw_t 235 (by decide +kernel) rfl, gw_t 3 (by decide +kernel) rfl, by decide +kernel⟩, gw_t 233 (by decide +kernel) rfl, gw_t 234 (by decide +kernel) rfl, _, _, rfl⟩
theorem ke_X5_has : mi_cv mX5_has 1 5 := ⟨⟨gw_t 467 (by decide +kernel) rfl, gw_t 3 (by decide +kernel) rfl, by decide +kernel⟩, gw_t 465 (by decide +kernel) rfl, gw_t 466 (by decide +kernel) rfl, _, _, rfl⟩
theorem ke_X5_cell : mi_cv mX5_cell 1 5 := ⟨⟨gw_t 265 (by decide +kernel) rfl, gw_t 3 (by decide +kernel) rfl, by decide +kernel⟩, gw_t 263 (by decide +kernel) rfl, gw_t 264 (by decide +kernel) rfl, _, _, rfl⟩
theorem ke_X5_setCell : mi_cv mX5_setCell 2 5 := ⟨⟨gw_t 476 (by decide +kernel) rfl, gw_t 3 (by decide +kernel) rfl, by decide +kernel⟩, gw_t 474 (by decide +kernel) rfl, gw_t 475 (by decide +kernel) rfl, _, _, rfl⟩
theorem ke_X5_swapWithNext : mi_cv mX5_swapWithNext 1 5 := ⟨⟨gw_t 463 (by decide +kernel) rfl, gw_t 3 (by decide +kernel) rfl, by decide +kernel⟩, gw_t 461 (by decide +kernel) rfl, gw_t 462 (by decide +kernel) rfl, _, _, rfl⟩
theorem ke_X5_empty : mi_cv mX5_empty 0 5 := ⟨⟨gw_t 243 (by decide +kernel) rfl, gw_t 3 (by decide +kernel) rfl, by decide +kernel⟩, gw_t 241 (by decide +kernel) rfl, gw_t 242 (by decide +kernel) rfl, _, _, rfl⟩
theorem ke_X5_push : mi_cv mX5_push 1 5 := ⟨⟨gw_t 231 (by decide +kernel) rfl, gw_t 3 (by decide +kernel) rfl, by decide +kernel⟩, gw_t 229 (by decide +kernel) rfl, gw_t 230 (by decide +kernel) rfl, _, _, rfl⟩
theorem ke_X5_shorten : mi_cv mX5_shorten 1 5 := ⟨⟨gw_t 428 (by decide +kernel) rfl, gw_t 3 (by decide +kernel) rfl, by decide +kernel⟩, gw_t 426 (by decide +kernel) rfl, gw_t 427 (by decide +kernel) rfl, _, _, rfl⟩
theorem ke_X5_become : mi_cv mX5_become 1 5 := ⟨⟨gw_t 412 (by decide +kernel) rfl, gw_t 3 (by decide +kernel) rfl, by decide +kernel⟩, gw_t 410 (by decide +kernel) rfl, gw_t 411 (by decide +kernel) rfl, _, _, rfl⟩
theorem ke_X5_extend : mi_cv mX5_extend 1 5 := ⟨⟨gw_t 416 (by decide +kernel) rfl, gw_t 3 (by decide +kernel) rfl, by decide +kernel⟩, gw_t 414 (by decide +kernel) rfl, gw_t 415 (by decide +kernel) rfl, _, _, rfl⟩
theorem ke_X5_isLike : mi_cv mX5_isLike 1 5 := ⟨⟨gw_t 552 (by decide +kernel) rfl, gw_t 3 (by decide +kernel) rfl, by decide +kernel⟩, gw_t 550 (by decide +kernel) rfl, gw_t 551 (by decide +kernel) rfl, _, _, rfl⟩
theorem ke_X5_alikeAhead : mi_cv mX5_alikeAhead 1 5 := ⟨⟨gw_t 556 (by decide +kernel) rfl, gw_t 3 (by decide +kernel) rfl, by decide +kernel⟩, gw_t 554 (by decide +kernel) rfl, gw_t 555 (by decide +kernel) rfl, _, _, rfl⟩
theorem ke_X5_alikeBehind : mi_cv mX5_alikeBehind 1 5 := ⟨⟨gw_t 572 (by decide +kernel) rfl, gw_t 3 (by decide +kernel) rfl, by decide +kernel⟩, gw_t 570 (by decide +kernel) rfl, gw_t 571 (by decide +kernel) rfl, _, _, rfl⟩
theorem ke_X6_init : mi_ci mX6_init 0 := ⟨⟨gw_t 162 (by decide +kernel) rfl, gw_t 9 (by decide +kernel) rfl, by decide +kernel⟩, gw_t 161 (by decide +kernel) rfl, rfl⟩
theorem ke_X6_make : mi_cv mX6_make 4 6 := ⟨⟨gw_t 444 (by decide +kernel) rfl, gw_t 9 (by decide +kernel) rfl, by decide +kernel⟩, gw_t 442 (by decide +kernel) rfl, gw_t 443 (by decide +kernel) rfl, _, _, rfl⟩
theorem ke_X6_makeOfBoth : mi_cv mX6_makeOfBoth 5 6 := ⟨⟨gw_t 565 (by decide +kernel) rfl, gw_t 9 (by decide +kernel) rfl, by decide +kernel⟩, gw_t 563 (by decide +kernel) rfl, gw_t 564 (by decide +kernel) rfl, _, _, rfl⟩
theorem ke_X6_goThrough : mi_cv mX6_goThrough 3 6 := ⟨⟨gw_t 619 (by decide +kernel) rfl, gw_t 9 (by decide +kernel) rfl, by decide +kernel⟩, gw_t 617 (by decide +kernel) rfl, gw_t 618 (by decide +kernel) rfl, _, _, rfl⟩
theorem ke_X6_isSorted : mi_cv mX6_isSorted 2 6 := ⟨⟨gw_t 536 (by decide +kernel) rfl, gw_t 9 (by decide +kernel) rfl, by decide +kernel⟩, gw_t 534 (by decide +kernel) rfl, gw_t 535 (by decide +kernel) rfl, _, _, rfl⟩
theorem ke_X6_takeApart : mi_cv mX6_takeApart 3 6 := ⟨⟨gw_t 449 (by decide +kernel) rfl, gw_t 9 (by decide +kernel) rfl, by decide +kernel⟩, gw_t 448 (by decide +kernel) rfl, gw_s 9 (by decide +kernel) rfl, _, _, rfl⟩
theorem ke_X6_sort : mi_cv mX6_sort 2 6 := ⟨⟨gw_t 458 (by decide +kernel) rfl, gw_t 9 (by decide +kernel) rfl, by decide +kernel⟩, gw_t 457 (by decide +kernel) rfl, gw_s 10 (by decide +kernel) rfl, _, _, rfl⟩
theorem ke_X6_join : mi_cv mX6_join 2 6 := ⟨⟨gw_t 471 (by decide +kernel) rfl, gw_t 9 (by decide +kernel) rfl, by decide +kernel⟩, gw_t 470 (by decide +kernel) rfl, gw_s 11 (by decide +kernel) rfl, _, _, rfl⟩
theorem ke_X6_dropMarks : mi_cv mX6_dropMarks 2 6 := ⟨⟨gw_t 483 (by decide +kernel) rfl, gw_t 9 (by decide +kernel) rfl, by decide +kernel⟩, gw_t 482 (by decide +kernel) rfl, gw_s 12 (by decide +kernel) rfl, _, _, rfl⟩
theorem ke_X6_turn : mi_cv mX6_turn 2 6 := ⟨⟨gw_t 491 (by decide +kernel) rfl, gw_t 9 (by decide +kernel) rfl, by decide +kernel⟩, gw_t 490 (by decide +kernel) rfl, gw_s 13 (by decide +kernel) rfl, _, _, rfl⟩
theorem ke_X6_takeFirst : mi_cv mX6_takeFirst 3 6 := ⟨⟨gw_t 495 (by decide +kernel) rfl, gw_t 9 (by decide +kernel) rfl, by decide +kernel⟩, gw_t 494 (by decide +kernel) rfl, gw_s 14 (by decide +kernel) rfl, _, _, rfl⟩
theorem ke_X7_init : mi_ci mX7_init 0 := ⟨⟨gw_t 177 (by decide +kernel) rfl, gw_t 10 (by decide +kernel) rfl, by decide +kernel⟩, gw_t 176 (by decide +kernel) rfl, rfl⟩
theorem ke_X7_waysToSpell : mi_cv mX7_waysToSpell 2 7 := ⟨⟨gw_t 582 (by decide +kernel) rfl, gw_t 10 (by decide +kernel) rfl, by decide +kernel⟩, gw_t 580 (by decide +kernel) rfl, gw_t 581 (by decide +kernel) rfl, _, _, rfl⟩
theorem ke_X7_waysUpTo : mi_cv mX7_waysUpTo 3 7 := ⟨⟨gw_t 588 (by decide +kernel) rfl, gw_t 10 (by decide +kernel) rfl, by decide +kernel⟩, gw_t 587 (by decide +kernel) rfl, gw_s 17 (by decide +kernel) rfl, _, _, rfl⟩
theorem ke_X8_init : mi_ci mX8_init 0 := ⟨⟨gw_t 16 (by decide +kernel) rfl, gw_t 1 (by decide +kernel) rfl, by decide +kernel⟩, gw_t 15 (by decide +kernel) rfl, rfl⟩
theorem ke_X8_type : mi_cv mX8_type 1 8 := ⟨⟨gw_t 223 (by decide +kernel) rfl, gw_t 1 (by decide +kernel) rfl, by decide +kernel⟩, gw_t 221 (by decide +kernel) rfl, gw_t 222 (by decide +kernel) rfl, _, _, rfl⟩
theorem ke_X8_clear : mi_cv mX8_clear 0 8 := ⟨⟨gw_t 239 (by decide +kernel) rfl, gw_t 1 (by decide +kernel) rfl, by decide +kernel⟩, gw_t 237 (by decide +kernel) rfl, gw_t 238 (by decide +kernel) rfl, _, _, rfl⟩
theorem ke_X8_tables : mi_cv mX8_tables 0 8 := ⟨⟨gw_t 247 (by decide +kernel) rfl, gw_t 1 (by decide +kernel) rfl, by decide +kernel⟩, gw_t 245 (by decide +kernel) rfl, gw_t 246 (by decide +kernel) rfl, _, _, rfl⟩
theorem ke_X8_code : mi_cv mX8_code 2 8 := ⟨⟨gw_t 384 (by decide +kernel) rfl, gw_t 1 (by decide +kernel) rfl, by decide +kernel⟩, gw_t 382 (by decide +kernel) rfl, gw_t 383 (by decide +kernel) rfl, _, _, rfl⟩
theorem ke_X8_pair : mi_cv mX8_pair 2 8 := ⟨⟨gw_t 395 (by decide +kernel) rfl, gw_t 1 (by decide +kernel) rfl, by decide +kernel⟩, gw_t 393 (by decide +kernel) rfl, gw_t 394 (by decide +kernel) rfl, _, _, rfl⟩
theorem ke_X8_puts : mi_cv mX8_puts 2 8 := ⟨⟨gw_t 400 (by decide +kernel) rfl, gw_t 1 (by decide +kernel) rfl, by decide +kernel⟩, gw_t 398 (by decide +kernel) rfl, gw_t 399 (by decide +kernel) rfl, _, _, rfl⟩
theorem ke_X8_cuts : mi_cv mX8_cuts 1 8 := ⟨⟨gw_t 423 (by decide +kernel) rfl, gw_t 1 (by decide +kernel) rfl, by decide +kernel⟩, gw_t 421 (by decide +kernel) rfl, gw_t 422 (by decide +kernel) rfl, _, _, rfl⟩
theorem ke_X8_appends : mi_cv mX8_appends 2 8 := ⟨⟨gw_t 432 (by decide +kernel) rfl, gw_t 1 (by decide +kernel) rfl, by decide +kernel⟩, gw_t 430 (by decide +kernel) rfl, gw_t 431 (by decide +kernel) rfl, _, _, rfl⟩
theorem ke_X8_forms : mi_cv mX8_forms 2 8 := ⟨⟨gw_t 437 (by decide +kernel) rfl, gw_t 1 (by decide +kernel) rfl, by decide +kernel⟩, gw_t 435 (by decide +kernel) rfl, gw_t 436 (by decide +kernel) rfl, _, _, rfl⟩
theorem ke_X8_undo : mi_cv mX8_undo 0 8 := ⟨⟨gw_t 500 (by decide +kernel) rfl, gw_t 1 (by decide +kernel) rfl, by decide +kernel⟩, gw_t 498 (by decide +kernel) rfl, gw_t 499 (by decide +kernel) rfl, _, _, rfl⟩
theorem ke_X8_at : mi_cv mX8_at 2 8 := ⟨⟨gw_t 516 (by decide +kernel) rfl, gw_t 1 (by decide +kernel) rfl, by decide +kernel⟩, gw_t 514 (by decide +kernel) rfl, gw_t 515 (by decide +kernel) rfl, _, _, rfl⟩
theorem ke_X8_ruled : mi_cv mX8_ruled 3 8 := ⟨⟨gw_t 524 (by decide +kernel) rfl, gw_t 1 (by decide +kernel) rfl, by decide +kernel⟩, gw_t 522 (by decide +kernel) rfl, gw_t 523 (by decide +kernel) rfl, _, _, rfl⟩
theorem ke_X8_quick : mi_cv mX8_quick 2 8 := ⟨⟨gw_t 528 (by decide +kernel) rfl, gw_t 1 (by decide +kernel) rfl, by decide +kernel⟩, gw_t 526 (by decide +kernel) rfl, gw_t 527 (by decide +kernel) rfl, _, _, rfl⟩
theorem ke_X8_same : mi_cv mX8_same 3 8 := ⟨⟨gw_t 548 (by decide +kernel) rfl, gw_t 1 (by decide +kernel) rfl, by decide +kernel⟩, gw_t 546 (by decide +kernel) rfl, gw_t 547 (by decide +kernel) rfl, _, _, rfl⟩
theorem ke_X8_seam : mi_cv mX8_seam 4 8 := ⟨⟨gw_t 561 (by decide +kernel) rfl, gw_t 1 (by decide +kernel) rfl, by decide +kernel⟩, gw_t 559 (by decide +kernel) rfl, gw_t 560 (by decide +kernel) rfl, _, _, rfl⟩
theorem ke_X8_spellings : mi_cv mX8_spellings 1 8 := ⟨⟨gw_t 577 (by decide +kernel) rfl, gw_t 1 (by decide +kernel) rfl, by decide +kernel⟩, gw_t 575 (by decide +kernel) rfl, gw_t 576 (by decide +kernel) rfl, _, _, rfl⟩
theorem ke_X8_pipes : mi_cv mX8_pipes 1 8 := ⟨⟨gw_t 603 (by decide +kernel) rfl, gw_t 1 (by decide +kernel) rfl, by decide +kernel⟩, gw_t 601 (by decide +kernel) rfl, gw_t 602 (by decide +kernel) rfl, _, _, rfl⟩
theorem ke_X8_unpipe : mi_cv mX8_unpipe 0 8 := ⟨⟨gw_t 611 (by decide +kernel) rfl, gw_t 1 (by decide +kernel) rfl, by decide +kernel⟩, gw_t 609 (by decide +kernel) rfl, gw_t 610 (by decide +kernel) rfl, _, _, rfl⟩
theorem ke_X8_piped : mi_cv mX8_piped 2 8 := ⟨⟨gw_t 615 (by decide +kernel) rfl, gw_t 1 (by decide +kernel) rfl, by decide +kernel⟩, gw_t 613 (by decide +kernel) rfl, gw_t 614 (by decide +kernel) rfl, _, _, rfl⟩
theorem ke_X8_fixed : mi_cv mX8_fixed 1 8 := ⟨⟨gw_t 623 (by decide +kernel) rfl, gw_t 1 (by decide +kernel) rfl, by decide +kernel⟩, gw_t 621 (by decide +kernel) rfl, gw_t 622 (by decide +kernel) rfl, _, _, rfl⟩
theorem ke_X8_keep : mi_cv mX8_keep 1 8 := ⟨⟨gw_t 627 (by decide +kernel) rfl, gw_t 1 (by decide +kernel) rfl, by decide +kernel⟩, gw_t 625 (by decide +kernel) rfl, gw_t 626 (by decide +kernel) rfl, _, _, rfl⟩
theorem ke_X8_back : mi_cv mX8_back 1 8 := ⟨⟨gw_t 645 (by decide +kernel) rfl, gw_t 1 (by decide +kernel) rfl, by decide +kernel⟩, gw_t 643 (by decide +kernel) rfl, gw_t 644 (by decide +kernel) rfl, _, _, rfl⟩
theorem ke_X8_count : mi_cv mX8_count 1 8 := ⟨⟨gw_t 658 (by decide +kernel) rfl, gw_t 1 (by decide +kernel) rfl, by decide +kernel⟩, gw_t 656 (by decide +kernel) rfl, gw_t 657 (by decide +kernel) rfl, _, _, rfl⟩
theorem ke_X8_isRule : mi_cs mX8_isRule 1 := ⟨⟨gw_t 440 (by decide +kernel) rfl, gw_t 1 (by decide +kernel) rfl, by decide +kernel⟩, gw_t 439 (by decide +kernel) rfl⟩
theorem ke_X8_look : mi_cs mX8_look 2 := ⟨⟨gw_t 519 (by decide +kernel) rfl, gw_t 1 (by decide +kernel) rfl, by decide +kernel⟩, gw_t 518 (by decide +kernel) rfl⟩
theorem ke_X8_quickApart : mi_cv mX8_quickApart 1 8 := ⟨⟨gw_t 532 (by decide +kernel) rfl, gw_t 1 (by decide +kernel) rfl, by decide +kernel⟩, gw_t 531 (by decide +kernel) rfl, gw_s 15 (by decide +kernel) rfl, _, _, rfl⟩
theorem ke_X8_quickJoined : mi_cv mX8_quickJoined 1 8 := ⟨⟨gw_t 540 (by decide +kernel) rfl, gw_t 1 (by decide +kernel) rfl, by decide +kernel⟩, gw_t 539 (by decide +kernel) rfl, gw_s 16 (by decide +kernel) rfl, _, _, rfl⟩
theorem ke_X9_init : mi_ci mX9_init 0 := ⟨⟨gw_t 672 (by decide +kernel) rfl, gw_t 11 (by decide +kernel) rfl, by decide +kernel⟩, gw_t 671 (by decide +kernel) rfl, rfl⟩
theorem ke_X9_in : mi_cs mX9_in 3 := ⟨⟨gw_t 763 (by decide +kernel) rfl, gw_t 11 (by decide +kernel) rfl, by decide +kernel⟩, gw_t 762 (by decide +kernel) rfl⟩
theorem ke_X9_isCode : mi_cv mX9_isCode 1 9 := ⟨⟨gw_t 760 (by decide +kernel) rfl, gw_t 11 (by decide +kernel) rfl, by decide +kernel⟩, gw_t 759 (by decide +kernel) rfl, gw_s 18 (by decide +kernel) rfl, _, _, rfl⟩
theorem ke_X9_sortMany : mi_cv mX9_sortMany 1 9 := ⟨⟨gw_t 807 (by decide +kernel) rfl, gw_t 11 (by decide +kernel) rfl, by decide +kernel⟩, gw_t 806 (by decide +kernel) rfl, gw_s 25 (by decide +kernel) rfl, _, _, rfl⟩
theorem ke_X9_pairOf : mi_cv mX9_pairOf 2 9 := ⟨⟨gw_t 771 (by decide +kernel) rfl, gw_t 11 (by decide +kernel) rfl, by decide +kernel⟩, gw_t 770 (by decide +kernel) rfl, gw_s 19 (by decide +kernel) rfl, _, _, rfl⟩
theorem ke_X9_comes : mi_cv mX9_comes 4 9 := ⟨⟨gw_t 819 (by decide +kernel) rfl, gw_t 11 (by decide +kernel) rfl, by decide +kernel⟩, gw_t 818 (by decide +kernel) rfl, gw_s 28 (by decide +kernel) rfl, _, _, rfl⟩
theorem ke_X9_comesPiece : mi_cv mX9_comesPiece 2 9 := ⟨⟨gw_t 823 (by decide +kernel) rfl, gw_t 11 (by decide +kernel) rfl, by decide +kernel⟩, gw_t 822 (by decide +kernel) rfl, gw_s 29 (by decide +kernel) rfl, _, _, rfl⟩
theorem ke_X9_code : mi_cv mX9_code 2 9 := ⟨⟨gw_t 756 (by decide +kernel) rfl, gw_t 11 (by decide +kernel) rfl, by decide +kernel⟩, gw_t 754 (by decide +kernel) rfl, gw_t 755 (by decide +kernel) rfl, _, _, rfl⟩
theorem ke_X9_pair : mi_cv mX9_pair 2 9 := ⟨⟨gw_t 767 (by decide +kernel) rfl, gw_t 11 (by decide +kernel) rfl, by decide +kernel⟩, gw_t 765 (by decide +kernel) rfl, gw_t 766 (by decide +kernel) rfl, _, _, rfl⟩
theorem ke_X9_type : mi_cv mX9_type 1 9 := ⟨⟨gw_t 775 (by decide +kernel) rfl, gw_t 11 (by decide +kernel) rfl, by decide +kernel⟩, gw_t 773 (by decide +kernel) rfl, gw_t 774 (by decide +kernel) rfl, _, _, rfl⟩
theorem ke_X9_clear : mi_cv mX9_clear 0 9 := ⟨⟨gw_t 779 (by decide +kernel) rfl, gw_t 11 (by decide +kernel) rfl, by decide +kernel⟩, gw_t 777 (by decide +kernel) rfl, gw_t 778 (by decide +kernel) rfl, _, _, rfl⟩
theorem ke_X9_here : mi_cv mX9_here 0 9 := ⟨⟨gw_t 799 (by decide +kernel) rfl, gw_t 11 (by decide +kernel) rfl, by decide +kernel⟩, gw_t 798 (by decide +kernel) rfl, gw_s 23 (by decide +kernel) rfl, _, _, rfl⟩
theorem ke_X9_skip : mi_cv mX9_skip 0 9 := ⟨⟨gw_t 795 (by decide +kernel) rfl, gw_t 11 (by decide +kernel) rfl, by decide +kernel⟩, gw_t 794 (by decide +kernel) rfl, gw_s 22 (by decide +kernel) rfl, _, _, rfl⟩
theorem ke_X9_number : mi_cv mX9_number 2 9 := ⟨⟨gw_t 815 (by decide +kernel) rfl, gw_t 11 (by decide +kernel) rfl, by decide +kernel⟩, gw_t 814 (by decide +kernel) rfl, gw_s 27 (by decide +kernel) rfl, _, _, rfl⟩
theorem ke_X9_ends : mi_cv mX9_ends 0 9 := ⟨⟨gw_t 827 (by decide +kernel) rfl, gw_t 11 (by decide +kernel) rfl, by decide +kernel⟩, gw_t 826 (by decide +kernel) rfl, gw_s 30 (by decide +kernel) rfl, _, _, rfl⟩
theorem ke_X9_readsPlain : mi_cv mX9_readsPlain 0 9 := ⟨⟨gw_t 811 (by decide +kernel) rfl, gw_t 11 (by decide +kernel) rfl, by decide +kernel⟩, gw_t 810 (by decide +kernel) rfl, gw_s 26 (by decide +kernel) rfl, _, _, rfl⟩
theorem ke_X9_mayBegin : mi_cv mX9_mayBegin 1 9 := ⟨⟨gw_t 839 (by decide +kernel) rfl, gw_t 11 (by decide +kernel) rfl, by decide +kernel⟩, gw_t 838 (by decide +kernel) rfl, gw_s 33 (by decide +kernel) rfl, _, _, rfl⟩
theorem ke_X9_mayFollow : mi_cv mX9_mayFollow 3 9 := ⟨⟨gw_t 843 (by decide +kernel) rfl, gw_t 11 (by decide +kernel) rfl, by decide +kernel⟩, gw_t 842 (by decide +kernel) rfl, gw_s 34 (by decide +kernel) rfl, _, _, rfl⟩
theorem ke_X9_readsTwo : mi_cv mX9_readsTwo 1 9 := ⟨⟨gw_t 835 (by decide +kernel) rfl, gw_t 11 (by decide +kernel) rfl, by decide +kernel⟩, gw_t 834 (by decide +kernel) rfl, gw_s 32 (by decide +kernel) rfl, _, _, rfl⟩
theorem ke_X9_readsSingle : mi_cv mX9_readsSingle 0 9 := ⟨⟨gw_t 831 (by decide +kernel) rfl, gw_t 11 (by decide +kernel) rfl, by decide +kernel⟩, gw_t 830 (by decide +kernel) rfl, gw_s 31 (by decide +kernel) rfl, _, _, rfl⟩
theorem ke_X9_readsCode : mi_cv mX9_readsCode 0 9 := ⟨⟨gw_t 803 (by decide +kernel) rfl, gw_t 11 (by decide +kernel) rfl, by decide +kernel⟩, gw_t 802 (by decide +kernel) rfl, gw_s 24 (by decide +kernel) rfl, _, _, rfl⟩
theorem ke_X9_readsAll : mi_cv mX9_readsAll 0 9 := ⟨⟨gw_t 791 (by decide +kernel) rfl, gw_t 11 (by decide +kernel) rfl, by decide +kernel⟩, gw_t 790 (by decide +kernel) rfl, gw_s 21 (by decide +kernel) rfl, _, _, rfl⟩
theorem ke_X9_lays : mi_cv mX9_lays 0 9 := ⟨⟨gw_t 787 (by decide +kernel) rfl, gw_t 11 (by decide +kernel) rfl, by decide +kernel⟩, gw_t 786 (by decide +kernel) rfl, gw_s 20 (by decide +kernel) rfl, _, _, rfl⟩
theorem ke_X9_takes : mi_cv mX9_takes 0 9 := ⟨⟨gw_t 847 (by decide +kernel) rfl, gw_t 11 (by decide +kernel) rfl, by decide +kernel⟩, gw_t 846 (by decide +kernel) rfl, gw_s 35 (by decide +kernel) rfl, _, _, rfl⟩
theorem ke_X9_tables : mi_cv mX9_tables 0 9 := ⟨⟨gw_t 783 (by decide +kernel) rfl, gw_t 11 (by decide +kernel) rfl, by decide +kernel⟩, gw_t 781 (by decide +kernel) rfl, gw_t 782 (by decide +kernel) rfl, _, _, rfl⟩
theorem ke_X9_isText : mi_cs mX9_isText 1 := ⟨⟨gw_t 854 (by decide +kernel) rfl, gw_t 11 (by decide +kernel) rfl, by decide +kernel⟩, gw_t 853 (by decide +kernel) rfl⟩
theorem ke_X9_isRule : mi_cs mX9_isRule 1 := ⟨⟨gw_t 877 (by decide +kernel) rfl, gw_t 11 (by decide +kernel) rfl, by decide +kernel⟩, gw_t 876 (by decide +kernel) rfl⟩
theorem ke_X9_notes : mi_cv mX9_notes 1 9 := ⟨⟨gw_t 858 (by decide +kernel) rfl, gw_t 11 (by decide +kernel) rfl, by decide +kernel⟩, gw_t 857 (by decide +kernel) rfl, gw_s 36 (by decide +kernel) rfl, _, _, rfl⟩
theorem ke_X9_adds : mi_cv mX9_adds 2 9 := ⟨⟨gw_t 862 (by decide +kernel) rfl, gw_t 11 (by decide +kernel) rfl, by decide +kernel⟩, gw_t 861 (by decide +kernel) rfl, gw_s 37 (by decide +kernel) rfl, _, _, rfl⟩
theorem ke_X9_puts : mi_cv mX9_puts 2 9 := ⟨⟨gw_t 851 (by decide +kernel) rfl, gw_t 11 (by decide +kernel) rfl, by decide +kernel⟩, gw_t 849 (by decide +kernel) rfl, gw_t 850 (by decide +kernel) rfl, _, _, rfl⟩
theorem ke_X9_cuts : mi_cv mX9_cuts 1 9 := ⟨⟨gw_t 866 (by decide +kernel) rfl, gw_t 11 (by decide +kernel) rfl, by decide +kernel⟩, gw_t 864 (by decide +kernel) rfl, gw_t 865 (by decide +kernel) rfl, _, _, rfl⟩
theorem ke_X9_appends : mi_cv mX9_appends 2 9 := ⟨⟨gw_t 870 (by decide +kernel) rfl, gw_t 11 (by decide +kernel) rfl, by decide +kernel⟩, gw_t 868 (by decide +kernel) rfl, gw_t 869 (by decide +kernel) rfl, _, _, rfl⟩
theorem ke_X9_comeOut : mi_cv mX9_comeOut 1 9 := ⟨⟨gw_t 881 (by decide +kernel) rfl, gw_t 11 (by decide +kernel) rfl, by decide +kernel⟩, gw_t 880 (by decide +kernel) rfl, gw_s 38 (by decide +kernel) rfl, _, _, rfl⟩
theorem ke_X9_addsOut : mi_cv mX9_addsOut 1 9 := ⟨⟨gw_t 885 (by decide +kernel) rfl, gw_t 11 (by decide +kernel) rfl, by decide +kernel⟩, gw_t 884 (by decide +kernel) rfl, gw_s 39 (by decide +kernel) rfl, _, _, rfl⟩
theorem ke_X9_asOther : mi_cv mX9_asOther 0 9 := ⟨⟨gw_t 897 (by decide +kernel) rfl, gw_t 11 (by decide +kernel) rfl, by decide +kernel⟩, gw_t 896 (by decide +kernel) rfl, gw_s 42 (by decide +kernel) rfl, _, _, rfl⟩
theorem ke_X9_comeApart : mi_cv mX9_comeApart 0 9 := ⟨⟨gw_t 893 (by decide +kernel) rfl, gw_t 11 (by decide +kernel) rfl, by decide +kernel⟩, gw_t 892 (by decide +kernel) rfl, gw_s 41 (by decide +kernel) rfl, _, _, rfl⟩
theorem ke_X9_sorts : mi_cv mX9_sorts 0 9 := ⟨⟨gw_t 901 (by decide +kernel) rfl, gw_t 11 (by decide +kernel) rfl, by decide +kernel⟩, gw_t 900 (by decide +kernel) rfl, gw_s 43 (by decide +kernel) rfl, _, _, rfl⟩
theorem ke_X9_joins : mi_cv mX9_joins 0 9 := ⟨⟨gw_t 905 (by decide +kernel) rfl, gw_t 11 (by decide +kernel) rfl, by decide +kernel⟩, gw_t 904 (by decide +kernel) rfl, gw_s 44 (by decide +kernel) rfl, _, _, rfl⟩
theorem ke_X9_isBlocked : mi_cv mX9_isBlocked 2 9 := ⟨⟨gw_t 909 (by decide +kernel) rfl, gw_t 11 (by decide +kernel) rfl, by decide +kernel⟩, gw_t 908 (by decide +kernel) rfl, gw_s 45 (by decide +kernel) rfl, _, _, rfl⟩
theorem ke_X9_keepsBases : mi_cv mX9_keepsBases 0 9 := ⟨⟨gw_t 913 (by decide +kernel) rfl, gw_t 11 (by decide +kernel) rfl, by decide +kernel⟩, gw_t 912 (by decide +kernel) rfl, gw_s 46 (by decide +kernel) rfl, _, _, rfl⟩
theorem ke_X9_turns : mi_cv mX9_turns 0 9 := ⟨⟨gw_t 917 (by decide +kernel) rfl, gw_t 11 (by decide +kernel) rfl, by decide +kernel⟩, gw_t 916 (by decide +kernel) rfl, gw_s 47 (by decide +kernel) rfl, _, _, rfl⟩
theorem ke_X9_keepsFirst : mi_cv mX9_keepsFirst 0 9 := ⟨⟨gw_t 921 (by decide +kernel) rfl, gw_t 11 (by decide +kernel) rfl, by decide +kernel⟩, gw_t 920 (by decide +kernel) rfl, gw_s 48 (by decide +kernel) rfl, _, _, rfl⟩
theorem ke_X9_rules : mi_cv mX9_rules 1 9 := ⟨⟨gw_t 889 (by decide +kernel) rfl, gw_t 11 (by decide +kernel) rfl, by decide +kernel⟩, gw_t 888 (by decide +kernel) rfl, gw_s 40 (by decide +kernel) rfl, _, _, rfl⟩
theorem ke_X9_told : mi_cv mX9_told 1 9 := ⟨⟨gw_t 933 (by decide +kernel) rfl, gw_t 11 (by decide +kernel) rfl, by decide +kernel⟩, gw_t 932 (by decide +kernel) rfl, gw_s 49 (by decide +kernel) rfl, _, _, rfl⟩
theorem ke_X9_forms : mi_cv mX9_forms 2 9 := ⟨⟨gw_t 874 (by decide +kernel) rfl, gw_t 11 (by decide +kernel) rfl, by decide +kernel⟩, gw_t 872 (by decide +kernel) rfl, gw_t 873 (by decide +kernel) rfl, _, _, rfl⟩
theorem ke_X9_undo : mi_cv mX9_undo 0 9 := ⟨⟨gw_t 925 (by decide +kernel) rfl, gw_t 11 (by decide +kernel) rfl, by decide +kernel⟩, gw_t 923 (by decide +kernel) rfl, gw_t 924 (by decide +kernel) rfl, _, _, rfl⟩
theorem ke_X9_at : mi_cv mX9_at 2 9 := ⟨⟨gw_t 929 (by decide +kernel) rfl, gw_t 11 (by decide +kernel) rfl, by decide +kernel⟩, gw_t 927 (by decide +kernel) rfl, gw_t 928 (by decide +kernel) rfl, _, _, rfl⟩
theorem ke_X9_ruled : mi_cv mX9_ruled 3 9 := ⟨⟨gw_t 937 (by decide +kernel) rfl, gw_t 11 (by decide +kernel) rfl, by decide +kernel⟩, gw_t 935 (by decide +kernel) rfl, gw_t 936 (by decide +kernel) rfl, _, _, rfl⟩
theorem ke_X9_keeps : mi_cv mX9_keeps 0 9 := ⟨⟨gw_t 953 (by decide +kernel) rfl, gw_t 11 (by decide +kernel) rfl, by decide +kernel⟩, gw_t 952 (by decide +kernel) rfl, gw_s 52 (by decide +kernel) rfl, _, _, rfl⟩
theorem ke_X9_isKept : mi_cv mX9_isKept 0 9 := ⟨⟨gw_t 957 (by decide +kernel) rfl, gw_t 11 (by decide +kernel) rfl, by decide +kernel⟩, gw_t 956 (by decide +kernel) rfl, gw_s 53 (by decide +kernel) rfl, _, _, rfl⟩
theorem ke_X9_isSorted : mi_cv mX9_isSorted 0 9 := ⟨⟨gw_t 949 (by decide +kernel) rfl, gw_t 11 (by decide +kernel) rfl, by decide +kernel⟩, gw_t 948 (by decide +kernel) rfl, gw_s 51 (by decide +kernel) rfl, _, _, rfl⟩
theorem ke_X9_isSecond : mi_cv mX9_isSecond 1 9 := ⟨⟨gw_t 945 (by decide +kernel) rfl, gw_t 11 (by decide +kernel) rfl, by decide +kernel⟩, gw_t 944 (by decide +kernel) rfl, gw_s 50 (by decide +kernel) rfl, _, _, rfl⟩
theorem ke_X9_quick : mi_cv mX9_quick 2 9 := ⟨⟨gw_t 941 (by decide +kernel) rfl, gw_t 11 (by decide +kernel) rfl, by decide +kernel⟩, gw_t 939 (by decide +kernel) rfl, gw_t 940 (by decide +kernel) rfl, _, _, rfl⟩
theorem ke_X9_same : mi_cv mX9_same 3 9 := ⟨⟨gw_t 961 (by decide +kernel) rfl, gw_t 11 (by decide +kernel) rfl, by decide +kernel⟩, gw_t 959 (by decide +kernel) rfl, gw_t 960 (by decide +kernel) rfl, _, _, rfl⟩
theorem ke_X9_seam : mi_cv mX9_seam 4 9 := ⟨⟨gw_t 965 (by decide +kernel) rfl, gw_t 11 (by decide +kernel) rfl, by decide +kernel⟩, gw_t 963 (by decide +kernel) rfl, gw_t 964 (by decide +kernel) rfl, _, _, rfl⟩
theorem ke_X9_stands : mi_cv mX9_stands 2 9 := ⟨⟨gw_t 974 (by decide +kernel) rfl, gw_t 11 (by decide +kernel) rfl, by decide +kernel⟩, gw_t 973 (by decide +kernel) rfl, gw_s 54 (by decide +kernel) rfl, _, _, rfl⟩
theorem ke_X9_spellings : mi_cv mX9_spellings 1 9 := ⟨⟨gw_t 969 (by decide +kernel) rfl, gw_t 11 (by decide +kernel) rfl, by decide +kernel⟩, gw_t 967 (by decide +kernel) rfl, gw_t 968 (by decide +kernel) rfl, _, _, rfl⟩
theorem ke_X9_pipes : mi_cv mX9_pipes 1 9 := ⟨⟨gw_t 979 (by decide +kernel) rfl, gw_t 11 (by decide +kernel) rfl, by decide +kernel⟩, gw_t 977 (by decide +kernel) rfl, gw_t 978 (by decide +kernel) rfl, _, _, rfl⟩
theorem ke_X9_unpipe : mi_cv mX9_unpipe 0 9 := ⟨⟨gw_t 983 (by decide +kernel) rfl, gw_t 11 (by decide +kernel) rfl, by decide +kernel⟩, gw_t 981 (by decide +kernel) rfl, gw_t 982 (by decide +kernel) rfl, _, _, rfl⟩
theorem ke_X9_goesThrough : mi_cv mX9_goesThrough 0 9 := ⟨⟨gw_t 991 (by decide +kernel) rfl, gw_t 11 (by decide +kernel) rfl, by decide +kernel⟩, gw_t 990 (by decide +kernel) rfl, gw_s 55 (by decide +kernel) rfl, _, _, rfl⟩
theorem ke_X9_piped : mi_cv mX9_piped 2 9 := ⟨⟨gw_t 987 (by decide +kernel) rfl, gw_t 11 (by decide +kernel) rfl, by decide +kernel⟩, gw_t 985 (by decide +kernel) rfl, gw_t 986 (by decide +kernel) rfl, _, _, rfl⟩
theorem ke_X9_fixed : mi_cv mX9_fixed 1 9 := ⟨⟨gw_t 995 (by decide +kernel) rfl, gw_t 11 (by decide +kernel) rfl, by decide +kernel⟩, gw_t 993 (by decide +kernel) rfl, gw_t 994 (by decide +kernel) rfl, _, _, rfl⟩
theorem ke_X9_allMany : mi_cv mX9_allMany 0 9 := ⟨⟨gw_t 1003 (by decide +kernel) rfl, gw_t 11 (by decide +kernel) rfl, by decide +kernel⟩, gw_t 1002 (by decide +kernel) rfl, gw_s 56 (by decide +kernel) rfl, _, _, rfl⟩
theorem ke_X9_keep : mi_cv mX9_keep 1 9 := ⟨⟨gw_t 999 (by decide +kernel) rfl, gw_t 11 (by decide +kernel) rfl, by decide +kernel⟩, gw_t 997 (by decide +kernel) rfl, gw_t 998 (by decide +kernel) rfl, _, _, rfl⟩
theorem ke_X9_back : mi_cv mX9_back 1 9 := ⟨⟨gw_t 1007 (by decide +kernel) rfl, gw_t 11 (by decide +kernel) rfl, by decide +kernel⟩, gw_t 1005 (by decide +kernel) rfl, gw_t 1006 (by decide +kernel) rfl, _, _, rfl⟩
theorem ke_X9_marks : mi_cv mX9_marks 0 9 := ⟨⟨gw_t 1015 (by decide +kernel) rfl, gw_t 11 (by decide +kernel) rfl, by decide +kernel⟩, gw_t 1014 (by decide +kernel) rfl, gw_s 57 (by decide +kernel) rfl, _, _, rfl⟩
theorem ke_X9_count : mi_cv mX9_count 1 9 := ⟨⟨gw_t 1011 (by decide +kernel) rfl, gw_t 11 (by decide +kernel) rfl, by decide +kernel⟩, gw_t 1009 (by decide +kernel) rfl, gw_t 1010 (by decide +kernel) rfl, _, _, rfl⟩
theorem ml_L_9 : Cond.methodLink RL 9 yX8_init ∈ gw := gw_t 14 (by decide +kernel) rfl
theorem ml_X8_3 : Cond.methodLink RX8 3 objectInit ∈ gw := gw_t 17 (by decide +kernel) rfl
theorem ml_X4_3 : Cond.methodLink RX4 3 objectInit ∈ gw := gw_t 25 (by decide +kernel) rfl
theorem ml_X4_11 : Cond.methodLink RX4 11 yX5_init ∈ gw := gw_t 28 (by decide +kernel) rfl
theorem ml_X5_3 : Cond.methodLink RX5 3 objectInit ∈ gw := gw_t 31 (by decide +kernel) rfl
theorem ml_X5_9 : Cond.methodLink RX5 9 Lib.Math.max.name ∈ gw := gw_t 32 (by decide +kernel) rfl
theorem ml_X1_3 : Cond.methodLink RX1 3 objectInit ∈ gw := gw_t 76 (by decide +kernel) rfl
theorem ml_X1_32 : Cond.methodLink RX1 32 yX5_init ∈ gw := gw_t 78 (by decide +kernel) rfl
theorem ml_X8_28 : Cond.methodLink RX8 28 yX0_init ∈ gw := gw_t 106 (by decide +kernel) rfl
theorem ml_X0_3 : Cond.methodLink RX0 3 objectInit ∈ gw := gw_t 109 (by decide +kernel) rfl
theorem ml_X0_17 : Cond.methodLink RX0 17 yX5_init ∈ gw := gw_t 112 (by decide +kernel) rfl
theorem ml_X8_35 : Cond.methodLink RX8 35 yX3_init ∈ gw := gw_t 122 (by decide +kernel) rfl
theorem ml_X3_3 : Cond.methodLink RX3 3 objectInit ∈ gw := gw_t 125 (by decide +kernel) rfl
theorem ml_X3_21 : Cond.methodLink RX3 21 yX0_init ∈ gw := gw_t 128 (by decide +kernel) rfl
theorem ml_X8_42 : Cond.methodLink RX8 42 yX2_init ∈ gw := gw_t 139 (by decide +kernel) rfl
theorem ml_X2_3 : Cond.methodLink RX2 3 objectInit ∈ gw := gw_t 142 (by decide +kernel) rfl
theorem ml_X2_21 : Cond.methodLink RX2 21 yX5_init ∈ gw := gw_t 144 (by decide +kernel) rfl
theorem ml_X6_3 : Cond.methodLink RX6 3 objectInit ∈ gw := gw_t 163 (by decide +kernel) rfl
theorem ml_X6_11 : Cond.methodLink RX6 11 yX5_init ∈ gw := gw_t 165 (by decide +kernel) rfl
theorem ml_X7_3 : Cond.methodLink RX7 3 objectInit ∈ gw := gw_t 178 (by decide +kernel) rfl
theorem ml_X8_63 : Cond.methodLink RX8 63 yX5_init ∈ gw := gw_t 185 (by decide +kernel) rfl
theorem ml_L_13 : Cond.methodLink RL 13 yX8_type ∈ gw := gw_t 220 (by decide +kernel) rfl
theorem ml_X8_76 : Cond.methodLink RX8 76 yX4_typed ∈ gw := gw_t 224 (by decide +kernel) rfl
theorem ml_X8_80 : Cond.methodLink RX8 80 yX5_push ∈ gw := gw_t 228 (by decide +kernel) rfl
theorem ml_X8_84 : Cond.methodLink RX8 84 yX5_length ∈ gw := gw_t 232 (by decide +kernel) rfl
theorem ml_L_18 : Cond.methodLink RL 18 yX8_clear ∈ gw := gw_t 236 (by decide +kernel) rfl
theorem ml_X8_88 : Cond.methodLink RX8 88 yX5_empty ∈ gw := gw_t 240 (by decide +kernel) rfl
theorem ml_L_23 : Cond.methodLink RL 23 yX8_tables ∈ gw := gw_t 244 (by decide +kernel) rfl
theorem ml_X8_91 : Cond.methodLink RX8 91 yX4_readInto ∈ gw := gw_t 248 (by decide +kernel) rfl
theorem ml_X4_20 : Cond.methodLink RX4 20 yX1_empty ∈ gw := gw_t 252 (by decide +kernel) rfl
theorem ml_X1_80 : Cond.methodLink RX1 80 yX5_empty ∈ gw := gw_t 256 (by decide +kernel) rfl
theorem ml_X4_29 : Cond.methodLink RX4 29 yX4_step ∈ gw := gw_t 257 (by decide +kernel) rfl
theorem ml_X4_97 : Cond.methodLink RX4 97 yX5_length ∈ gw := gw_t 261 (by decide +kernel) rfl
theorem ml_X4_101 : Cond.methodLink RX4 101 yX5_cell ∈ gw := gw_t 262 (by decide +kernel) rfl
theorem ml_X4_104 : Cond.methodLink RX4 104 yX4_isLetter ∈ gw := gw_t 266 (by decide +kernel) rfl
theorem ml_X4_107 : Cond.methodLink RX4 107 yX4_takeLetters ∈ gw := gw_t 269 (by decide +kernel) rfl
theorem ml_X4_110 : Cond.methodLink RX4 110 yX4_isDigit ∈ gw := gw_t 273 (by decide +kernel) rfl
theorem ml_X4_113 : Cond.methodLink RX4 113 yX4_takeNumber ∈ gw := gw_t 276 (by decide +kernel) rfl
theorem ml_X4_116 : Cond.methodLink RX4 116 Lib.Math.min.name ∈ gw := gw_t 280 (by decide +kernel) rfl
theorem ml_X4_35 : Cond.methodLink RX4 35 yX4_readCode ∈ gw := gw_t 283 (by decide +kernel) rfl
theorem ml_X4_58 : Cond.methodLink RX4 58 yX1_isFull ∈ gw := gw_t 287 (by decide +kernel) rfl
theorem ml_X4_65 : Cond.methodLink RX4 65 yX4_readPlain ∈ gw := gw_t 291 (by decide +kernel) rfl
theorem ml_X4_68 : Cond.methodLink RX4 68 yX1_hasRoomForPair ∈ gw := gw_t 295 (by decide +kernel) rfl
theorem ml_X1_43 : Cond.methodLink RX1 43 yX5_length ∈ gw := gw_t 299 (by decide +kernel) rfl
theorem ml_X4_71 : Cond.methodLink RX4 71 yX4_readTwo ∈ gw := gw_t 300 (by decide +kernel) rfl
theorem ml_X4_86 : Cond.methodLink RX4 86 yX1_mayBeFirst ∈ gw := gw_t 304 (by decide +kernel) rfl
theorem ml_X1_74 : Cond.methodLink RX1 74 yX1_kindOf ∈ gw := gw_t 308 (by decide +kernel) rfl
theorem ml_X1_47 : Cond.methodLink RX1 47 yX1_holds ∈ gw := gw_t 312 (by decide +kernel) rfl
theorem ml_X1_51 : Cond.methodLink RX1 51 yX1_classOf ∈ gw := gw_t 316 (by decide +kernel) rfl
theorem ml_X1_64 : Cond.methodLink RX1 64 yX1_pieceCount ∈ gw := gw_t 320 (by decide +kernel) rfl
theorem ml_X4_89 : Cond.methodLink RX4 89 yX1_mayBeSecond ∈ gw := gw_t 324 (by decide +kernel) rfl
theorem ml_X1_70 : Cond.methodLink RX1 70 yX1_piece ∈ gw := gw_t 328 (by decide +kernel) rfl
theorem ml_X4_93 : Cond.methodLink RX4 93 yX1_pairOf ∈ gw := gw_t 332 (by decide +kernel) rfl
theorem ml_X1_55 : Cond.methodLink RX1 55 yX5_cell ∈ gw := gw_t 336 (by decide +kernel) rfl
theorem ml_X1_58 : Cond.methodLink RX1 58 yX1_firstOf ∈ gw := gw_t 337 (by decide +kernel) rfl
theorem ml_X1_61 : Cond.methodLink RX1 61 yX1_secondOf ∈ gw := gw_t 341 (by decide +kernel) rfl
theorem ml_X4_75 : Cond.methodLink RX4 75 yX4_readSingle ∈ gw := gw_t 345 (by decide +kernel) rfl
theorem ml_X4_78 : Cond.methodLink RX4 78 yX1_classOf ∈ gw := gw_t 349 (by decide +kernel) rfl
theorem ml_X4_82 : Cond.methodLink RX4 82 yX1_holds ∈ gw := gw_t 350 (by decide +kernel) rfl
theorem ml_X4_54 : Cond.methodLink RX4 54 yX1_add ∈ gw := gw_t 351 (by decide +kernel) rfl
theorem ml_X1_83 : Cond.methodLink RX1 83 yX1_addPiece ∈ gw := gw_t 355 (by decide +kernel) rfl
theorem ml_X1_86 : Cond.methodLink RX1 86 yX1_addPiecesOf ∈ gw := gw_t 359 (by decide +kernel) rfl
theorem ml_X1_89 : Cond.methodLink RX1 89 yX5_push ∈ gw := gw_t 363 (by decide +kernel) rfl
theorem ml_X8_95 : Cond.methodLink RX8 95 yX0_empty ∈ gw := gw_t 364 (by decide +kernel) rfl
theorem ml_X0_28 : Cond.methodLink RX0 28 yX5_empty ∈ gw := gw_t 368 (by decide +kernel) rfl
theorem ml_X8_96 : Cond.methodLink RX8 96 yX3_drop ∈ gw := gw_t 369 (by decide +kernel) rfl
theorem ml_X8_99 : Cond.methodLink RX8 99 yX2_forget ∈ gw := gw_t 373 (by decide +kernel) rfl
theorem ml_X8_102 : Cond.methodLink RX8 102 yX1_size ∈ gw := gw_t 377 (by decide +kernel) rfl
theorem ml_L_27 : Cond.methodLink RL 27 yX8_code ∈ gw := gw_t 381 (by decide +kernel) rfl
theorem ml_X8_105 : Cond.methodLink RX8 105 yX1_holds ∈ gw := gw_t 385 (by decide +kernel) rfl
theorem ml_X8_108 : Cond.methodLink RX8 108 yX1_classOf ∈ gw := gw_t 386 (by decide +kernel) rfl
theorem ml_X8_112 : Cond.methodLink RX8 112 yX1_kindOf ∈ gw := gw_t 387 (by decide +kernel) rfl
theorem ml_X8_115 : Cond.methodLink RX8 115 yX1_firstOf ∈ gw := gw_t 388 (by decide +kernel) rfl
theorem ml_X8_118 : Cond.methodLink RX8 118 yX1_secondOf ∈ gw := gw_t 389 (by decide +kernel) rfl
theorem ml_X8_121 : Cond.methodLink RX8 121 yX1_pieceCount ∈ gw := gw_t 390 (by decide +kernel) rfl
theorem ml_X8_124 : Cond.methodLink RX8 124 yX1_piece ∈ gw := gw_t 391 (by decide +kernel) rfl
theorem ml_L_32 : Cond.methodLink RL 32 yX8_pair ∈ gw := gw_t 392 (by decide +kernel) rfl
theorem ml_X8_128 : Cond.methodLink RX8 128 yX1_pairOf ∈ gw := gw_t 396 (by decide +kernel) rfl
theorem ml_L_36 : Cond.methodLink RL 36 yX8_puts ∈ gw := gw_t 397 (by decide +kernel) rfl
theorem ml_X8_131 : Cond.methodLink RX8 131 yX0_text ∈ gw := gw_t 401 (by decide +kernel) rfl
theorem ml_X8_135 : Cond.methodLink RX8 135 yX2_remember ∈ gw := gw_t 405 (by decide +kernel) rfl
theorem ml_X2_31 : Cond.methodLink RX2 31 yX5_become ∈ gw := gw_t 409 (by decide +kernel) rfl
theorem ml_X5_29 : Cond.methodLink RX5 29 yX5_extend ∈ gw := gw_t 413 (by decide +kernel) rfl
theorem ml_X5_33 : Cond.methodLink RX5 33 yX5_cell ∈ gw := gw_t 417 (by decide +kernel) rfl
theorem ml_X5_37 : Cond.methodLink RX5 37 yX5_push ∈ gw := gw_t 418 (by decide +kernel) rfl
theorem ml_X2_35 : Cond.methodLink RX2 35 Lib.Math.min.name ∈ gw := gw_t 419 (by decide +kernel) rfl
theorem ml_L_40 : Cond.methodLink RL 40 yX8_cuts ∈ gw := gw_t 420 (by decide +kernel) rfl
theorem ml_X8_139 : Cond.methodLink RX8 139 yX5_cell ∈ gw := gw_t 424 (by decide +kernel) rfl
theorem ml_X8_142 : Cond.methodLink RX8 142 yX5_shorten ∈ gw := gw_t 425 (by decide +kernel) rfl
theorem ml_L_44 : Cond.methodLink RL 44 yX8_appends ∈ gw := gw_t 429 (by decide +kernel) rfl
theorem ml_X8_145 : Cond.methodLink RX8 145 yX5_extend ∈ gw := gw_t 433 (by decide +kernel) rfl
theorem ml_L_48 : Cond.methodLink RL 48 yX8_forms ∈ gw := gw_t 434 (by decide +kernel) rfl
theorem ml_X8_149 : Cond.methodLink RX8 149 yX8_isRule ∈ gw := gw_t 438 (by decide +kernel) rfl
theorem ml_X8_152 : Cond.methodLink RX8 152 yX6_make ∈ gw := gw_t 441 (by decide +kernel) rfl
theorem ml_X6_23 : Cond.methodLink RX6 23 yX5_empty ∈ gw := gw_t 445 (by decide +kernel) rfl
theorem ml_X6_26 : Cond.methodLink RX6 26 yX6_takeApart ∈ gw := gw_t 446 (by decide +kernel) rfl
theorem ml_X6_58 : Cond.methodLink RX6 58 yX5_length ∈ gw := gw_t 450 (by decide +kernel) rfl
theorem ml_X6_62 : Cond.methodLink RX6 62 yX5_cell ∈ gw := gw_t 451 (by decide +kernel) rfl
theorem ml_X6_75 : Cond.methodLink RX6 75 yX1_pieceCount ∈ gw := gw_t 452 (by decide +kernel) rfl
theorem ml_X6_78 : Cond.methodLink RX6 78 yX1_piece ∈ gw := gw_t 453 (by decide +kernel) rfl
theorem ml_X6_82 : Cond.methodLink RX6 82 yX5_push ∈ gw := gw_t 454 (by decide +kernel) rfl
theorem ml_X6_38 : Cond.methodLink RX6 38 yX6_sort ∈ gw := gw_t 455 (by decide +kernel) rfl
theorem ml_X6_72 : Cond.methodLink RX6 72 yX1_classOf ∈ gw := gw_t 459 (by decide +kernel) rfl
theorem ml_X6_85 : Cond.methodLink RX6 85 yX5_swapWithNext ∈ gw := gw_t 460 (by decide +kernel) rfl
theorem ml_X5_25 : Cond.methodLink RX5 25 yX5_has ∈ gw := gw_t 464 (by decide +kernel) rfl
theorem ml_X6_30 : Cond.methodLink RX6 30 yX6_join ∈ gw := gw_t 468 (by decide +kernel) rfl
theorem ml_X6_88 : Cond.methodLink RX6 88 yX1_pairOf ∈ gw := gw_t 472 (by decide +kernel) rfl
theorem ml_X6_91 : Cond.methodLink RX6 91 yX5_setCell ∈ gw := gw_t 473 (by decide +kernel) rfl
theorem ml_X6_95 : Cond.methodLink RX6 95 Lib.Math.max.name ∈ gw := gw_t 477 (by decide +kernel) rfl
theorem ml_X6_100 : Cond.methodLink RX6 100 yX5_shorten ∈ gw := gw_t 478 (by decide +kernel) rfl
theorem ml_X6_34 : Cond.methodLink RX6 34 yX5_extend ∈ gw := gw_t 479 (by decide +kernel) rfl
theorem ml_X6_41 : Cond.methodLink RX6 41 yX6_dropMarks ∈ gw := gw_t 480 (by decide +kernel) rfl
theorem ml_X6_66 : Cond.methodLink RX6 66 yX1_isBase ∈ gw := gw_t 484 (by decide +kernel) rfl
theorem ml_X6_44 : Cond.methodLink RX6 44 yX6_turn ∈ gw := gw_t 488 (by decide +kernel) rfl
theorem ml_X6_48 : Cond.methodLink RX6 48 yX6_takeFirst ∈ gw := gw_t 492 (by decide +kernel) rfl
theorem ml_X8_156 : Cond.methodLink RX8 156 yX5_become ∈ gw := gw_t 496 (by decide +kernel) rfl
theorem ml_L_52 : Cond.methodLink RL 52 yX8_undo ∈ gw := gw_t 497 (by decide +kernel) rfl
theorem ml_X8_159 : Cond.methodLink RX8 159 yX2_latestText ∈ gw := gw_t 501 (by decide +kernel) rfl
theorem ml_X8_162 : Cond.methodLink RX8 162 yX2_giveBack ∈ gw := gw_t 505 (by decide +kernel) rfl
theorem ml_X8_165 : Cond.methodLink RX8 165 yX2_known ∈ gw := gw_t 509 (by decide +kernel) rfl
theorem ml_L_56 : Cond.methodLink RL 56 yX8_at ∈ gw := gw_t 513 (by decide +kernel) rfl
theorem ml_X8_168 : Cond.methodLink RX8 168 yX8_look ∈ gw := gw_t 517 (by decide +kernel) rfl
theorem ml_X8_234 : Cond.methodLink RX8 234 yX5_has ∈ gw := gw_t 520 (by decide +kernel) rfl
theorem ml_L_60 : Cond.methodLink RL 60 yX8_ruled ∈ gw := gw_t 521 (by decide +kernel) rfl
theorem ml_L_65 : Cond.methodLink RL 65 yX8_quick ∈ gw := gw_t 525 (by decide +kernel) rfl
theorem ml_X8_172 : Cond.methodLink RX8 172 yX8_quickApart ∈ gw := gw_t 529 (by decide +kernel) rfl
theorem ml_X8_237 : Cond.methodLink RX8 237 yX6_isSorted ∈ gw := gw_t 533 (by decide +kernel) rfl
theorem ml_X8_176 : Cond.methodLink RX8 176 yX8_quickJoined ∈ gw := gw_t 537 (by decide +kernel) rfl
theorem ml_X8_241 : Cond.methodLink RX8 241 yX1_isSecondOfPair ∈ gw := gw_t 541 (by decide +kernel) rfl
theorem ml_L_69 : Cond.methodLink RL 69 yX8_same ∈ gw := gw_t 545 (by decide +kernel) rfl
theorem ml_X8_179 : Cond.methodLink RX8 179 yX5_isLike ∈ gw := gw_t 549 (by decide +kernel) rfl
theorem ml_X5_40 : Cond.methodLink RX5 40 yX5_alikeAhead ∈ gw := gw_t 553 (by decide +kernel) rfl
theorem ml_X5_44 : Cond.methodLink RX5 44 Lib.Math.min.name ∈ gw := gw_t 557 (by decide +kernel) rfl
theorem ml_L_73 : Cond.methodLink RL 73 yX8_seam ∈ gw := gw_t 558 (by decide +kernel) rfl
theorem ml_X8_183 : Cond.methodLink RX8 183 yX6_makeOfBoth ∈ gw := gw_t 562 (by decide +kernel) rfl
theorem ml_X6_51 : Cond.methodLink RX6 51 yX5_become ∈ gw := gw_t 566 (by decide +kernel) rfl
theorem ml_X6_54 : Cond.methodLink RX6 54 yX6_make ∈ gw := gw_t 567 (by decide +kernel) rfl
theorem ml_X8_187 : Cond.methodLink RX8 187 yX5_alikeAhead ∈ gw := gw_t 568 (by decide +kernel) rfl
theorem ml_X8_190 : Cond.methodLink RX8 190 yX5_alikeBehind ∈ gw := gw_t 569 (by decide +kernel) rfl
theorem ml_X8_193 : Cond.methodLink RX8 193 Lib.Math.min.name ∈ gw := gw_t 573 (by decide +kernel) rfl
theorem ml_L_78 : Cond.methodLink RL 78 yX8_spellings ∈ gw := gw_t 574 (by decide +kernel) rfl
theorem ml_X8_200 : Cond.methodLink RX8 200 yX7_waysToSpell ∈ gw := gw_t 579 (by decide +kernel) rfl
theorem ml_X7_15 : Cond.methodLink RX7 15 yX5_length ∈ gw := gw_t 583 (by decide +kernel) rfl
theorem ml_X7_21 : Cond.methodLink RX7 21 Lib.Math.min.name ∈ gw := gw_t 584 (by decide +kernel) rfl
theorem ml_X7_27 : Cond.methodLink RX7 27 yX7_waysUpTo ∈ gw := gw_t 585 (by decide +kernel) rfl
theorem ml_X7_31 : Cond.methodLink RX7 31 yX1_size ∈ gw := gw_t 589 (by decide +kernel) rfl
theorem ml_X7_36 : Cond.methodLink RX7 36 yX1_pieceCount ∈ gw := gw_t 590 (by decide +kernel) rfl
theorem ml_X7_40 : Cond.methodLink RX7 40 yX1_piecesStandAt ∈ gw := gw_t 591 (by decide +kernel) rfl
theorem ml_X1_67 : Cond.methodLink RX1 67 yX5_has ∈ gw := gw_t 595 (by decide +kernel) rfl
theorem ml_X7_46 : Cond.methodLink RX7 46 Lib.MathLoose.min_long.x ∈ gw := gw_t 597 (by decide +kernel) rfl
theorem ml_L_83 : Cond.methodLink RL 83 yX8_pipes ∈ gw := gw_t 600 (by decide +kernel) rfl
theorem ml_X8_204 : Cond.methodLink RX8 204 yX0_pipe ∈ gw := gw_t 604 (by decide +kernel) rfl
theorem ml_L_87 : Cond.methodLink RL 87 yX8_unpipe ∈ gw := gw_t 608 (by decide +kernel) rfl
theorem ml_L_91 : Cond.methodLink RL 91 yX8_piped ∈ gw := gw_t 612 (by decide +kernel) rfl
theorem ml_X8_207 : Cond.methodLink RX8 207 yX6_goThrough ∈ gw := gw_t 616 (by decide +kernel) rfl
theorem ml_L_95 : Cond.methodLink RL 95 yX8_fixed ∈ gw := gw_t 620 (by decide +kernel) rfl
theorem ml_L_99 : Cond.methodLink RL 99 yX8_keep ∈ gw := gw_t 624 (by decide +kernel) rfl
theorem ml_X8_211 : Cond.methodLink RX8 211 yX3_take ∈ gw := gw_t 628 (by decide +kernel) rfl
theorem ml_X3_22 : Cond.methodLink RX3 22 yX0_become ∈ gw := gw_t 632 (by decide +kernel) rfl
theorem ml_X0_31 : Cond.methodLink RX0 31 yX5_become ∈ gw := gw_t 636 (by decide +kernel) rfl
theorem ml_X8_215 : Cond.methodLink RX8 215 yX0_total ∈ gw := gw_t 637 (by decide +kernel) rfl
theorem ml_X0_24 : Cond.methodLink RX0 24 yX5_length ∈ gw := gw_t 641 (by decide +kernel) rfl
theorem ml_L_103 : Cond.methodLink RL 103 yX8_back ∈ gw := gw_t 642 (by decide +kernel) rfl
theorem ml_X8_218 : Cond.methodLink RX8 218 yX3_image ∈ gw := gw_t 646 (by decide +kernel) rfl
theorem ml_X8_222 : Cond.methodLink RX8 222 yX3_isKept ∈ gw := gw_t 650 (by decide +kernel) rfl
theorem ml_X8_225 : Cond.methodLink RX8 225 yX0_become ∈ gw := gw_t 654 (by decide +kernel) rfl
theorem ml_L_107 : Cond.methodLink RL 107 yX8_count ∈ gw := gw_t 655 (by decide +kernel) rfl
theorem ml_X8_228 : Cond.methodLink RX8 228 yX1_countMarks ∈ gw := gw_t 659 (by decide +kernel) rfl
theorem ml_X1_77 : Cond.methodLink RX1 77 yX1_isBase ∈ gw := gw_t 663 (by decide +kernel) rfl
theorem ml_X8_231 : Cond.methodLink RX8 231 yX1_countKind ∈ gw := gw_t 664 (by decide +kernel) rfl
theorem ml_L_12 : Cond.methodLink RL 12 yX9_init ∈ gw := gw_t 670 (by decide +kernel) rfl
theorem ml_X9_1 : Cond.methodLink RX9 1 objectInit ∈ gw := gw_t 673 (by decide +kernel) rfl
theorem ml_L_31 : Cond.methodLink RL 31 yX9_code ∈ gw := gw_t 753 (by decide +kernel) rfl
theorem ml_X9_74 : Cond.methodLink RX9 74 yX9_isCode ∈ gw := gw_t 757 (by decide +kernel) rfl
theorem ml_X9_66 : Cond.methodLink RX9 66 yX9_in ∈ gw := gw_t 761 (by decide +kernel) rfl
theorem ml_L_35 : Cond.methodLink RL 35 yX9_pair ∈ gw := gw_t 764 (by decide +kernel) rfl
theorem ml_X9_78 : Cond.methodLink RX9 78 yX9_pairOf ∈ gw := gw_t 768 (by decide +kernel) rfl
theorem ml_L_17 : Cond.methodLink RL 17 yX9_type ∈ gw := gw_t 772 (by decide +kernel) rfl
theorem ml_L_22 : Cond.methodLink RL 22 yX9_clear ∈ gw := gw_t 776 (by decide +kernel) rfl
theorem ml_L_26 : Cond.methodLink RL 26 yX9_tables ∈ gw := gw_t 780 (by decide +kernel) rfl
theorem ml_X9_132 : Cond.methodLink RX9 132 yX9_lays ∈ gw := gw_t 784 (by decide +kernel) rfl
theorem ml_X9_135 : Cond.methodLink RX9 135 yX9_readsAll ∈ gw := gw_t 788 (by decide +kernel) rfl
theorem ml_X9_92 : Cond.methodLink RX9 92 yX9_skip ∈ gw := gw_t 792 (by decide +kernel) rfl
theorem ml_X9_88 : Cond.methodLink RX9 88 yX9_here ∈ gw := gw_t 796 (by decide +kernel) rfl
theorem ml_X9_129 : Cond.methodLink RX9 129 yX9_readsCode ∈ gw := gw_t 800 (by decide +kernel) rfl
theorem ml_X9_116 : Cond.methodLink RX9 116 yX9_sortMany ∈ gw := gw_t 804 (by decide +kernel) rfl
theorem ml_X9_120 : Cond.methodLink RX9 120 yX9_readsPlain ∈ gw := gw_t 808 (by decide +kernel) rfl
theorem ml_X9_98 : Cond.methodLink RX9 98 yX9_number ∈ gw := gw_t 812 (by decide +kernel) rfl
theorem ml_X9_102 : Cond.methodLink RX9 102 yX9_comes ∈ gw := gw_t 816 (by decide +kernel) rfl
theorem ml_X9_70 : Cond.methodLink RX9 70 yX9_comesPiece ∈ gw := gw_t 820 (by decide +kernel) rfl
theorem ml_X9_106 : Cond.methodLink RX9 106 yX9_ends ∈ gw := gw_t 824 (by decide +kernel) rfl
theorem ml_X9_123 : Cond.methodLink RX9 123 yX9_readsSingle ∈ gw := gw_t 828 (by decide +kernel) rfl
theorem ml_X9_126 : Cond.methodLink RX9 126 yX9_readsTwo ∈ gw := gw_t 832 (by decide +kernel) rfl
theorem ml_X9_110 : Cond.methodLink RX9 110 yX9_mayBegin ∈ gw := gw_t 836 (by decide +kernel) rfl
theorem ml_X9_113 : Cond.methodLink RX9 113 yX9_mayFollow ∈ gw := gw_t 840 (by decide +kernel) rfl
theorem ml_X9_138 : Cond.methodLink RX9 138 yX9_takes ∈ gw := gw_t 844 (by decide +kernel) rfl
theorem ml_L_39 : Cond.methodLink RL 39 yX9_puts ∈ gw := gw_t 848 (by decide +kernel) rfl
theorem ml_X9_147 : Cond.methodLink RX9 147 yX9_isText ∈ gw := gw_t 852 (by decide +kernel) rfl
theorem ml_X9_150 : Cond.methodLink RX9 150 yX9_notes ∈ gw := gw_t 855 (by decide +kernel) rfl
theorem ml_X9_154 : Cond.methodLink RX9 154 yX9_adds ∈ gw := gw_t 859 (by decide +kernel) rfl
theorem ml_L_43 : Cond.methodLink RL 43 yX9_cuts ∈ gw := gw_t 863 (by decide +kernel) rfl
theorem ml_L_47 : Cond.methodLink RL 47 yX9_appends ∈ gw := gw_t 867 (by decide +kernel) rfl
theorem ml_L_51 : Cond.methodLink RL 51 yX9_forms ∈ gw := gw_t 871 (by decide +kernel) rfl
theorem ml_X9_190 : Cond.methodLink RX9 190 yX9_isRule ∈ gw := gw_t 875 (by decide +kernel) rfl
theorem ml_X9_193 : Cond.methodLink RX9 193 yX9_comeOut ∈ gw := gw_t 878 (by decide +kernel) rfl
theorem ml_X9_160 : Cond.methodLink RX9 160 yX9_addsOut ∈ gw := gw_t 882 (by decide +kernel) rfl
theorem ml_X9_196 : Cond.methodLink RX9 196 yX9_rules ∈ gw := gw_t 886 (by decide +kernel) rfl
theorem ml_X9_172 : Cond.methodLink RX9 172 yX9_comeApart ∈ gw := gw_t 890 (by decide +kernel) rfl
theorem ml_X9_166 : Cond.methodLink RX9 166 yX9_asOther ∈ gw := gw_t 894 (by decide +kernel) rfl
theorem ml_X9_175 : Cond.methodLink RX9 175 yX9_sorts ∈ gw := gw_t 898 (by decide +kernel) rfl
theorem ml_X9_178 : Cond.methodLink RX9 178 yX9_joins ∈ gw := gw_t 902 (by decide +kernel) rfl
theorem ml_X9_169 : Cond.methodLink RX9 169 yX9_isBlocked ∈ gw := gw_t 906 (by decide +kernel) rfl
theorem ml_X9_181 : Cond.methodLink RX9 181 yX9_keepsBases ∈ gw := gw_t 910 (by decide +kernel) rfl
theorem ml_X9_184 : Cond.methodLink RX9 184 yX9_turns ∈ gw := gw_t 914 (by decide +kernel) rfl
theorem ml_X9_187 : Cond.methodLink RX9 187 yX9_keepsFirst ∈ gw := gw_t 918 (by decide +kernel) rfl
theorem ml_L_55 : Cond.methodLink RL 55 yX9_undo ∈ gw := gw_t 922 (by decide +kernel) rfl
theorem ml_L_59 : Cond.methodLink RL 59 yX9_at ∈ gw := gw_t 926 (by decide +kernel) rfl
theorem ml_X9_199 : Cond.methodLink RX9 199 yX9_told ∈ gw := gw_t 930 (by decide +kernel) rfl
theorem ml_L_64 : Cond.methodLink RL 64 yX9_ruled ∈ gw := gw_t 934 (by decide +kernel) rfl
theorem ml_L_68 : Cond.methodLink RL 68 yX9_quick ∈ gw := gw_t 938 (by decide +kernel) rfl
theorem ml_X9_211 : Cond.methodLink RX9 211 yX9_isSecond ∈ gw := gw_t 942 (by decide +kernel) rfl
theorem ml_X9_214 : Cond.methodLink RX9 214 yX9_isSorted ∈ gw := gw_t 946 (by decide +kernel) rfl
theorem ml_X9_205 : Cond.methodLink RX9 205 yX9_keeps ∈ gw := gw_t 950 (by decide +kernel) rfl
theorem ml_X9_208 : Cond.methodLink RX9 208 yX9_isKept ∈ gw := gw_t 954 (by decide +kernel) rfl
theorem ml_L_72 : Cond.methodLink RL 72 yX9_same ∈ gw := gw_t 958 (by decide +kernel) rfl
theorem ml_L_77 : Cond.methodLink RL 77 yX9_seam ∈ gw := gw_t 962 (by decide +kernel) rfl
theorem ml_L_82 : Cond.methodLink RL 82 yX9_spellings ∈ gw := gw_t 966 (by decide +kernel) rfl
theorem ml_X9_219 : Cond.methodLink RX9 219 yX9_stands ∈ gw := gw_t 971 (by decide +kernel) rfl
theorem ml_L_86 : Cond.methodLink RL 86 yX9_pipes ∈ gw := gw_t 976 (by decide +kernel) rfl
theorem ml_L_90 : Cond.methodLink RL 90 yX9_unpipe ∈ gw := gw_t 980 (by decide +kernel) rfl
theorem ml_L_94 : Cond.methodLink RL 94 yX9_piped ∈ gw := gw_t 984 (by decide +kernel) rfl
theorem ml_X9_224 : Cond.methodLink RX9 224 yX9_goesThrough ∈ gw := gw_t 988 (by decide +kernel) rfl
theorem ml_L_98 : Cond.methodLink RL 98 yX9_fixed ∈ gw := gw_t 992 (by decide +kernel) rfl
theorem ml_L_102 : Cond.methodLink RL 102 yX9_keep ∈ gw := gw_t 996 (by decide +kernel) rfl
theorem ml_X9_227 : Cond.methodLink RX9 227 yX9_allMany ∈ gw := gw_t 1000 (by decide +kernel) rfl
theorem ml_L_106 : Cond.methodLink RL 106 yX9_back ∈ gw := gw_t 1004 (by decide +kernel) rfl
theorem ml_L_110 : Cond.methodLink RL 110 yX9_count ∈ gw := gw_t 1008 (by decide +kernel) rfl
theorem ml_X9_230 : Cond.methodLink RX9 230 yX9_marks ∈ gw := gw_t 1012 (by decide +kernel) rfl
theorem gw_oi : Cond.instanceMethod objectInit ∈ gw := gw_t 18 (by decide +kernel) rfl
theorem gw_oc : Cond.code objectInit ⟨#[0xb1]⟩ 1 none ∈ gw := gw_t 19 (by decide +kernel) rfl
theorem gw_maxs : Cond.static Lib.Math.max.name ∈ gw := gw_t 33 (by decide +kernel) rfl
theorem gw_maxc : Cond.code Lib.Math.max.name Lib.Math.max.code 2 (some .int) ∈ gw := gw_t 34 (by decide +kernel) rfl
theorem gw_mins : Cond.static Lib.Math.min.name ∈ gw := gw_t 281 (by decide +kernel) rfl
theorem gw_minc : Cond.code Lib.Math.min.name Lib.Math.min.code 2 (some .int) ∈ gw := gw_t 282 (by decide +kernel) rfl
theorem gw_minls : Cond.static Lib.MathLoose.min_long.x ∈ gw := gw_t 598 (by decide +kernel) rfl
theorem gw_minlc : Cond.code Lib.MathLoose.min_long.x Lib.MathLoose.min_long.code 4 (some .long) ∈ gw := gw_t 599 (by decide +kernel) rfl
theorem gw_mi : Cond.initialized "java/lang/Math" ∈ gw := gw_t 4 (by decide +kernel) rfl
theorem gw_aint : Cond.arrayClass .int ∈ gw := gw_t 42 (by decide +kernel) rfl
theorem gw_aboolean : Cond.arrayClass .boolean ∈ gw := gw_t 136 (by decide +kernel) rfl
theorem gw_along : Cond.arrayClass .long ∈ gw := gw_t 183 (by decide +kernel) rfl
theorem cl_X8_198 : Cond.constantLong RX8 198 (-1) ∈ gw := gw_t 578 (by decide +kernel) rfl
theorem cl_X7_44 : Cond.constantLong RX7 44 (1000000000000000000) ∈ gw := gw_t 596 (by decide +kernel) rfl
theorem cl_X9_217 : Cond.constantLong RX9 217 (-1) ∈ gw := gw_t 970 (by decide +kernel) rfl
theorem cl_X9_222 : Cond.constantLong RX9 222 (1000000000000000000) ∈ gw := gw_t 975 (by decide +kernel) rfl
def mi_nest : List Cond := [.methodLinkNest RX8 11 yX4_init "MarkOrder", .methodLinkNest RX8 18 yX1_init "MarkOrder", .methodLinkNest RX8 49 yX6_init "MarkOrder", .methodLinkNest RX8 56 yX7_init "MarkOrder"]
theorem nest_in : ∀ w ∈ mi_nest, w ∈ lw_tbl := by
  intro w hw
  simp only [mi_nest, List.mem_cons, List.not_mem_nil, or_false] at hw
  rcases hw with rfl | rfl | rfl | rfl
  · exact List.mem_append_right _ (List.mem_of_getElem? (i := 22) (by decide +kernel))
  · exact List.mem_append_right _ (List.mem_of_getElem? (i := 73) (by decide +kernel))
  · exact List.mem_append_right _ (List.mem_of_getElem? (i := 160) (by decide +kernel))
  · exact List.mem_append_right _ (List.mem_of_getElem? (i := 175) (by decide +kernel))
theorem ao_5 : Cond.arrayOver (.object RX5) ∈ lw_tbl := List.mem_append_right _ (List.mem_of_getElem? (i := 111) (by decide +kernel))
theorem ao_0 : Cond.arrayOver (.object RX0) ∈ lw_tbl := List.mem_append_right _ (List.mem_of_getElem? (i := 127) (by decide +kernel))
end
section
theorem dX0_init_0 : decode cX0_init 0 = .ok (.aload_n 0, 1) := by decide +kernel
theorem dX0_init_1 : decode cX0_init 1 = .ok (.invokespecial 3, 3) := by decide +kernel
theorem dX0_init_4 : decode cX0_init 4 = .ok (.aload_n 0, 1) := by decide +kernel
theorem dX0_init_5 : decode cX0_init 5 = .ok (.iconst 4, 1) := by decide +kernel
theorem dX0_init_6 : decode cX0_init 6 = .ok (.anewarray 9, 3) := by decide +kernel
theorem dX0_init_9 : decode cX0_init 9 = .ok (.putfield 11, 3) := by decide +kernel
theorem dX0_init_12 : decode cX0_init 12 = .ok (.aload_n 0, 1) := by decide +kernel
theorem dX0_init_13 : decode cX0_init 13 = .ok (.new 9, 3) := by decide +kernel
theorem dX0_init_16 : decode cX0_init 16 = .ok (.dup, 1) := by decide +kernel
theorem dX0_init_17 : decode cX0_init 17 = .ok (.iconst 4, 1) := by decide +kernel
theorem dX0_init_18 : decode cX0_init 18 = .ok (.invokespecial 17, 3) := by decide +kernel
theorem dX0_init_21 : decode cX0_init 21 = .ok (.putfield 20, 3) := by decide +kernel
theorem dX0_init_24 : decode cX0_init 24 = .ok (.iconst 0, 1) := by decide +kernel
theorem dX0_init_25 : decode cX0_init 25 = .ok (.istore_n 1, 1) := by decide +kernel
theorem dX0_init_26 : decode cX0_init 26 = .ok (.iload_n 1, 1) := by decide +kernel
theorem dX0_init_27 : decode cX0_init 27 = .ok (.iconst 4, 1) := by decide +kernel
theorem dX0_init_28 : decode cX0_init 28 = .ok (.if_icmp .ge 24, 3) := by decide +kernel
theorem dX0_init_31 : decode cX0_init 31 = .ok (.aload_n 0, 1) := by decide +kernel
theorem dX0_init_32 : decode cX0_init 32 = .ok (.getfield 11, 3) := by decide +kernel
theorem dX0_init_35 : decode cX0_init 35 = .ok (.iload_n 1, 1) := by decide +kernel
theorem dX0_init_36 : decode cX0_init 36 = .ok (.new 9, 3) := by decide +kernel
theorem dX0_init_39 : decode cX0_init 39 = .ok (.dup, 1) := by decide +kernel
theorem dX0_init_40 : decode cX0_init 40 = .ok (.bipush 16, 2) := by decide +kernel
theorem dX0_init_42 : decode cX0_init 42 = .ok (.invokespecial 17, 3) := by decide +kernel
theorem dX0_init_45 : decode cX0_init 45 = .ok (.aastore, 1) := by decide +kernel
theorem dX0_init_46 : decode cX0_init 46 = .ok (.iinc 1 1, 3) := by decide +kernel
theorem dX0_init_49 : decode cX0_init 49 = .ok (.goto (-23), 3) := by decide +kernel
theorem dX0_init_52 : decode cX0_init 52 = .ok (.return_, 1) := by decide +kernel
theorem dX0_text_0 : decode cX0_text 0 = .ok (.iload_n 1, 1) := by decide +kernel
theorem dX0_text_1 : decode cX0_text 1 = .ok (.ifCond .lt 17, 3) := by decide +kernel
theorem dX0_text_4 : decode cX0_text 4 = .ok (.iload_n 1, 1) := by decide +kernel
theorem dX0_text_5 : decode cX0_text 5 = .ok (.iconst 4, 1) := by decide +kernel
theorem dX0_text_6 : decode cX0_text 6 = .ok (.if_icmp .ge 12, 3) := by decide +kernel
theorem dX0_text_9 : decode cX0_text 9 = .ok (.aload_n 0, 1) := by decide +kernel
theorem dX0_text_10 : decode cX0_text 10 = .ok (.getfield 11, 3) := by decide +kernel
theorem dX0_text_13 : decode cX0_text 13 = .ok (.iload_n 1, 1) := by decide +kernel
theorem dX0_text_14 : decode cX0_text 14 = .ok (.aaload, 1) := by decide +kernel
theorem dX0_text_15 : decode cX0_text 15 = .ok (.goto 4, 3) := by decide +kernel
theorem dX0_text_18 : decode cX0_text 18 = .ok (.aconst_null, 1) := by decide +kernel
theorem dX0_text_19 : decode cX0_text 19 = .ok (.areturn, 1) := by decide +kernel
theorem dX0_pipe_0 : decode cX0_pipe 0 = .ok (.aload_n 0, 1) := by decide +kernel
theorem dX0_pipe_1 : decode cX0_pipe 1 = .ok (.getfield 20, 3) := by decide +kernel
theorem dX0_pipe_4 : decode cX0_pipe 4 = .ok (.areturn, 1) := by decide +kernel
theorem dX0_total_0 : decode cX0_total 0 = .ok (.iconst 0, 1) := by decide +kernel
theorem dX0_total_1 : decode cX0_total 1 = .ok (.istore_n 1, 1) := by decide +kernel
theorem dX0_total_2 : decode cX0_total 2 = .ok (.iconst 0, 1) := by decide +kernel
theorem dX0_total_3 : decode cX0_total 3 = .ok (.istore_n 2, 1) := by decide +kernel
theorem dX0_total_4 : decode cX0_total 4 = .ok (.iload_n 2, 1) := by decide +kernel
theorem dX0_total_5 : decode cX0_total 5 = .ok (.iconst 4, 1) := by decide +kernel
theorem dX0_total_6 : decode cX0_total 6 = .ok (.if_icmp .ge 21, 3) := by decide +kernel
theorem dX0_total_9 : decode cX0_total 9 = .ok (.iload_n 1, 1) := by decide +kernel
theorem dX0_total_10 : decode cX0_total 10 = .ok (.aload_n 0, 1) := by decide +kernel
theorem dX0_total_11 : decode cX0_total 11 = .ok (.getfield 11, 3) := by decide +kernel
theorem dX0_total_14 : decode cX0_total 14 = .ok (.iload_n 2, 1) := by decide +kernel
theorem dX0_total_15 : decode cX0_total 15 = .ok (.aaload, 1) := by decide +kernel
theorem dX0_total_16 : decode cX0_total 16 = .ok (.invokevirtual 24, 3) := by decide +kernel
theorem dX0_total_19 : decode cX0_total 19 = .ok (.iadd, 1) := by decide +kernel
theorem dX0_total_20 : decode cX0_total 20 = .ok (.istore_n 1, 1) := by decide +kernel
theorem dX0_total_21 : decode cX0_total 21 = .ok (.iinc 2 1, 3) := by decide +kernel
theorem dX0_total_24 : decode cX0_total 24 = .ok (.goto (-20), 3) := by decide +kernel
theorem dX0_total_27 : decode cX0_total 27 = .ok (.iload_n 1, 1) := by decide +kernel
theorem dX0_total_28 : decode cX0_total 28 = .ok (.ireturn, 1) := by decide +kernel
theorem dX0_empty_0 : decode cX0_empty 0 = .ok (.iconst 0, 1) := by decide +kernel
theorem dX0_empty_1 : decode cX0_empty 1 = .ok (.istore_n 1, 1) := by decide +kernel
theorem dX0_empty_2 : decode cX0_empty 2 = .ok (.iload_n 1, 1) := by decide +kernel
theorem dX0_empty_3 : decode cX0_empty 3 = .ok (.iconst 4, 1) := by decide +kernel
theorem dX0_empty_4 : decode cX0_empty 4 = .ok (.if_icmp .ge 18, 3) := by decide +kernel
theorem dX0_empty_7 : decode cX0_empty 7 = .ok (.aload_n 0, 1) := by decide +kernel
theorem dX0_empty_8 : decode cX0_empty 8 = .ok (.getfield 11, 3) := by decide +kernel
theorem dX0_empty_11 : decode cX0_empty 11 = .ok (.iload_n 1, 1) := by decide +kernel
theorem dX0_empty_12 : decode cX0_empty 12 = .ok (.aaload, 1) := by decide +kernel
theorem dX0_empty_13 : decode cX0_empty 13 = .ok (.invokevirtual 28, 3) := by decide +kernel
theorem dX0_empty_16 : decode cX0_empty 16 = .ok (.iinc 1 1, 3) := by decide +kernel
theorem dX0_empty_19 : decode cX0_empty 19 = .ok (.goto (-17), 3) := by decide +kernel
theorem dX0_empty_22 : decode cX0_empty 22 = .ok (.aload_n 0, 1) := by decide +kernel
theorem dX0_empty_23 : decode cX0_empty 23 = .ok (.getfield 20, 3) := by decide +kernel
theorem dX0_empty_26 : decode cX0_empty 26 = .ok (.invokevirtual 28, 3) := by decide +kernel
theorem dX0_empty_29 : decode cX0_empty 29 = .ok (.return_, 1) := by decide +kernel
theorem dX0_become_0 : decode cX0_become 0 = .ok (.iconst 0, 1) := by decide +kernel
theorem dX0_become_1 : decode cX0_become 1 = .ok (.istore_n 2, 1) := by decide +kernel
theorem dX0_become_2 : decode cX0_become 2 = .ok (.iload_n 2, 1) := by decide +kernel
theorem dX0_become_3 : decode cX0_become 3 = .ok (.iconst 4, 1) := by decide +kernel
theorem dX0_become_4 : decode cX0_become 4 = .ok (.if_icmp .ge 24, 3) := by decide +kernel
theorem dX0_become_7 : decode cX0_become 7 = .ok (.aload_n 0, 1) := by decide +kernel
theorem dX0_become_8 : decode cX0_become 8 = .ok (.getfield 11, 3) := by decide +kernel
theorem dX0_become_11 : decode cX0_become 11 = .ok (.iload_n 2, 1) := by decide +kernel
theorem dX0_become_12 : decode cX0_become 12 = .ok (.aaload, 1) := by decide +kernel
theorem dX0_become_13 : decode cX0_become 13 = .ok (.aload_n 1, 1) := by decide +kernel
theorem dX0_become_14 : decode cX0_become 14 = .ok (.getfield 11, 3) := by decide +kernel
theorem dX0_become_17 : decode cX0_become 17 = .ok (.iload_n 2, 1) := by decide +kernel
theorem dX0_become_18 : decode cX0_become 18 = .ok (.aaload, 1) := by decide +kernel
theorem dX0_become_19 : decode cX0_become 19 = .ok (.invokevirtual 31, 3) := by decide +kernel
theorem dX0_become_22 : decode cX0_become 22 = .ok (.iinc 2 1, 3) := by decide +kernel
theorem dX0_become_25 : decode cX0_become 25 = .ok (.goto (-23), 3) := by decide +kernel
theorem dX0_become_28 : decode cX0_become 28 = .ok (.aload_n 0, 1) := by decide +kernel
theorem dX0_become_29 : decode cX0_become 29 = .ok (.getfield 20, 3) := by decide +kernel
theorem dX0_become_32 : decode cX0_become 32 = .ok (.aload_n 1, 1) := by decide +kernel
theorem dX0_become_33 : decode cX0_become 33 = .ok (.getfield 20, 3) := by decide +kernel
theorem dX0_become_36 : decode cX0_become 36 = .ok (.invokevirtual 31, 3) := by decide +kernel
theorem dX0_become_39 : decode cX0_become 39 = .ok (.return_, 1) := by decide +kernel
theorem dX1_init_0 : decode cX1_init 0 = .ok (.aload_n 0, 1) := by decide +kernel
theorem dX1_init_1 : decode cX1_init 1 = .ok (.invokespecial 3, 3) := by decide +kernel
theorem dX1_init_4 : decode cX1_init 4 = .ok (.aload_n 0, 1) := by decide +kernel
theorem dX1_init_5 : decode cX1_init 5 = .ok (.bipush 24, 2) := by decide +kernel
theorem dX1_init_7 : decode cX1_init 7 = .ok (.newarray .int, 2) := by decide +kernel
theorem dX1_init_9 : decode cX1_init 9 = .ok (.putfield 9, 3) := by decide +kernel
theorem dX1_init_12 : decode cX1_init 12 = .ok (.aload_n 0, 1) := by decide +kernel
theorem dX1_init_13 : decode cX1_init 13 = .ok (.bipush 24, 2) := by decide +kernel
theorem dX1_init_15 : decode cX1_init 15 = .ok (.newarray .int, 2) := by decide +kernel
theorem dX1_init_17 : decode cX1_init 17 = .ok (.putfield 15, 3) := by decide +kernel
theorem dX1_init_20 : decode cX1_init 20 = .ok (.aload_n 0, 1) := by decide +kernel
theorem dX1_init_21 : decode cX1_init 21 = .ok (.bipush 24, 2) := by decide +kernel
theorem dX1_init_23 : decode cX1_init 23 = .ok (.newarray .int, 2) := by decide +kernel
theorem dX1_init_25 : decode cX1_init 25 = .ok (.putfield 18, 3) := by decide +kernel
theorem dX1_init_28 : decode cX1_init 28 = .ok (.aload_n 0, 1) := by decide +kernel
theorem dX1_init_29 : decode cX1_init 29 = .ok (.bipush 24, 2) := by decide +kernel
theorem dX1_init_31 : decode cX1_init 31 = .ok (.newarray .int, 2) := by decide +kernel
theorem dX1_init_33 : decode cX1_init 33 = .ok (.putfield 21, 3) := by decide +kernel
theorem dX1_init_36 : decode cX1_init 36 = .ok (.aload_n 0, 1) := by decide +kernel
theorem dX1_init_37 : decode cX1_init 37 = .ok (.bipush 24, 2) := by decide +kernel
theorem dX1_init_39 : decode cX1_init 39 = .ok (.newarray .int, 2) := by decide +kernel
theorem dX1_init_41 : decode cX1_init 41 = .ok (.putfield 24, 3) := by decide +kernel
theorem dX1_init_44 : decode cX1_init 44 = .ok (.aload_n 0, 1) := by decide +kernel
theorem dX1_init_45 : decode cX1_init 45 = .ok (.bipush 96, 2) := by decide +kernel
theorem dX1_init_47 : decode cX1_init 47 = .ok (.newarray .int, 2) := by decide +kernel
theorem dX1_init_49 : decode cX1_init 49 = .ok (.putfield 27, 3) := by decide +kernel
theorem dX1_init_52 : decode cX1_init 52 = .ok (.aload_n 0, 1) := by decide +kernel
theorem dX1_init_53 : decode cX1_init 53 = .ok (.new 30, 3) := by decide +kernel
theorem dX1_init_56 : decode cX1_init 56 = .ok (.dup, 1) := by decide +kernel
theorem dX1_init_57 : decode cX1_init 57 = .ok (.bipush 7, 2) := by decide +kernel
theorem dX1_init_59 : decode cX1_init 59 = .ok (.invokespecial 32, 3) := by decide +kernel
theorem dX1_init_62 : decode cX1_init 62 = .ok (.putfield 35, 3) := by decide +kernel
theorem dX1_init_65 : decode cX1_init 65 = .ok (.return_, 1) := by decide +kernel
theorem dX1_size_0 : decode cX1_size 0 = .ok (.aload_n 0, 1) := by decide +kernel
theorem dX1_size_1 : decode cX1_size 1 = .ok (.getfield 39, 3) := by decide +kernel
theorem dX1_size_4 : decode cX1_size 4 = .ok (.ireturn, 1) := by decide +kernel
theorem dX1_holds_0 : decode cX1_holds 0 = .ok (.iload_n 1, 1) := by decide +kernel
theorem dX1_holds_1 : decode cX1_holds 1 = .ok (.ifCond .lt 21, 3) := by decide +kernel
theorem dX1_holds_4 : decode cX1_holds 4 = .ok (.iload_n 1, 1) := by decide +kernel
theorem dX1_holds_5 : decode cX1_holds 5 = .ok (.aload_n 0, 1) := by decide +kernel
theorem dX1_holds_6 : decode cX1_holds 6 = .ok (.getfield 39, 3) := by decide +kernel
theorem dX1_holds_9 : decode cX1_holds 9 = .ok (.if_icmp .ge 13, 3) := by decide +kernel
theorem dX1_holds_12 : decode cX1_holds 12 = .ok (.iload_n 1, 1) := by decide +kernel
theorem dX1_holds_13 : decode cX1_holds 13 = .ok (.bipush 24, 2) := by decide +kernel
theorem dX1_holds_15 : decode cX1_holds 15 = .ok (.if_icmp .ge 7, 3) := by decide +kernel
theorem dX1_holds_18 : decode cX1_holds 18 = .ok (.iconst 1, 1) := by decide +kernel
theorem dX1_holds_19 : decode cX1_holds 19 = .ok (.goto 4, 3) := by decide +kernel
theorem dX1_holds_22 : decode cX1_holds 22 = .ok (.iconst 0, 1) := by decide +kernel
theorem dX1_holds_23 : decode cX1_holds 23 = .ok (.ireturn, 1) := by decide +kernel
theorem dX1_isFull_0 : decode cX1_isFull 0 = .ok (.aload_n 0, 1) := by decide +kernel
theorem dX1_isFull_1 : decode cX1_isFull 1 = .ok (.getfield 39, 3) := by decide +kernel
theorem dX1_isFull_4 : decode cX1_isFull 4 = .ok (.bipush 24, 2) := by decide +kernel
theorem dX1_isFull_6 : decode cX1_isFull 6 = .ok (.if_icmp .lt 7, 3) := by decide +kernel
theorem dX1_isFull_9 : decode cX1_isFull 9 = .ok (.iconst 1, 1) := by decide +kernel
theorem dX1_isFull_10 : decode cX1_isFull 10 = .ok (.goto 4, 3) := by decide +kernel
theorem dX1_isFull_13 : decode cX1_isFull 13 = .ok (.iconst 0, 1) := by decide +kernel
theorem dX1_isFull_14 : decode cX1_isFull 14 = .ok (.ireturn, 1) := by decide +kernel
theorem dX1_hasRoomForPair_0 : decode cX1_hasRoomForPair 0 = .ok (.aload_n 0, 1) := by decide +kernel
theorem dX1_hasRoomForPair_1 : decode cX1_hasRoomForPair 1 = .ok (.getfield 35, 3) := by decide +kernel
theorem dX1_hasRoomForPair_4 : decode cX1_hasRoomForPair 4 = .ok (.invokevirtual 43, 3) := by decide +kernel
theorem dX1_hasRoomForPair_7 : decode cX1_hasRoomForPair 7 = .ok (.bipush 7, 2) := by decide +kernel
theorem dX1_hasRoomForPair_9 : decode cX1_hasRoomForPair 9 = .ok (.if_icmp .ge 7, 3) := by decide +kernel
theorem dX1_hasRoomForPair_12 : decode cX1_hasRoomForPair 12 = .ok (.iconst 1, 1) := by decide +kernel
theorem dX1_hasRoomForPair_13 : decode cX1_hasRoomForPair 13 = .ok (.goto 4, 3) := by decide +kernel
theorem dX1_hasRoomForPair_16 : decode cX1_hasRoomForPair 16 = .ok (.iconst 0, 1) := by decide +kernel
theorem dX1_hasRoomForPair_17 : decode cX1_hasRoomForPair 17 = .ok (.ireturn, 1) := by decide +kernel
theorem dX1_kindOf_0 : decode cX1_kindOf 0 = .ok (.aload_n 0, 1) := by decide +kernel
theorem dX1_kindOf_1 : decode cX1_kindOf 1 = .ok (.iload_n 1, 1) := by decide +kernel
theorem dX1_kindOf_2 : decode cX1_kindOf 2 = .ok (.invokevirtual 47, 3) := by decide +kernel
theorem dX1_kindOf_5 : decode cX1_kindOf 5 = .ok (.ifCond .eq 12, 3) := by decide +kernel
theorem dX1_kindOf_8 : decode cX1_kindOf 8 = .ok (.aload_n 0, 1) := by decide +kernel
theorem dX1_kindOf_9 : decode cX1_kindOf 9 = .ok (.getfield 9, 3) := by decide +kernel
theorem dX1_kindOf_12 : decode cX1_kindOf 12 = .ok (.iload_n 1, 1) := by decide +kernel
theorem dX1_kindOf_13 : decode cX1_kindOf 13 = .ok (.iaload, 1) := by decide +kernel
theorem dX1_kindOf_14 : decode cX1_kindOf 14 = .ok (.goto 5, 3) := by decide +kernel
theorem dX1_kindOf_17 : decode cX1_kindOf 17 = .ok (.bipush (-9), 2) := by decide +kernel
theorem dX1_kindOf_19 : decode cX1_kindOf 19 = .ok (.ireturn, 1) := by decide +kernel
theorem dX1_classOf_0 : decode cX1_classOf 0 = .ok (.aload_n 0, 1) := by decide +kernel
theorem dX1_classOf_1 : decode cX1_classOf 1 = .ok (.iload_n 1, 1) := by decide +kernel
theorem dX1_classOf_2 : decode cX1_classOf 2 = .ok (.invokevirtual 47, 3) := by decide +kernel
theorem dX1_classOf_5 : decode cX1_classOf 5 = .ok (.ifCond .eq 12, 3) := by decide +kernel
theorem dX1_classOf_8 : decode cX1_classOf 8 = .ok (.aload_n 0, 1) := by decide +kernel
theorem dX1_classOf_9 : decode cX1_classOf 9 = .ok (.getfield 15, 3) := by decide +kernel
theorem dX1_classOf_12 : decode cX1_classOf 12 = .ok (.iload_n 1, 1) := by decide +kernel
theorem dX1_classOf_13 : decode cX1_classOf 13 = .ok (.iaload, 1) := by decide +kernel
theorem dX1_classOf_14 : decode cX1_classOf 14 = .ok (.goto 5, 3) := by decide +kernel
theorem dX1_classOf_17 : decode cX1_classOf 17 = .ok (.bipush (-9), 2) := by decide +kernel
theorem dX1_classOf_19 : decode cX1_classOf 19 = .ok (.ireturn, 1) := by decide +kernel
theorem dX1_isBase_0 : decode cX1_isBase 0 = .ok (.aload_n 0, 1) := by decide +kernel
theorem dX1_isBase_1 : decode cX1_isBase 1 = .ok (.iload_n 1, 1) := by decide +kernel
theorem dX1_isBase_2 : decode cX1_isBase 2 = .ok (.invokevirtual 51, 3) := by decide +kernel
theorem dX1_isBase_5 : decode cX1_isBase 5 = .ok (.ifCond .ne 7, 3) := by decide +kernel
theorem dX1_isBase_8 : decode cX1_isBase 8 = .ok (.iconst 1, 1) := by decide +kernel
theorem dX1_isBase_9 : decode cX1_isBase 9 = .ok (.goto 4, 3) := by decide +kernel
theorem dX1_isBase_12 : decode cX1_isBase 12 = .ok (.iconst 0, 1) := by decide +kernel
theorem dX1_isBase_13 : decode cX1_isBase 13 = .ok (.ireturn, 1) := by decide +kernel
theorem dX1_firstOf_0 : decode cX1_firstOf 0 = .ok (.aload_n 0, 1) := by decide +kernel
theorem dX1_firstOf_1 : decode cX1_firstOf 1 = .ok (.iload_n 1, 1) := by decide +kernel
theorem dX1_firstOf_2 : decode cX1_firstOf 2 = .ok (.invokevirtual 47, 3) := by decide +kernel
theorem dX1_firstOf_5 : decode cX1_firstOf 5 = .ok (.ifCond .eq 12, 3) := by decide +kernel
theorem dX1_firstOf_8 : decode cX1_firstOf 8 = .ok (.aload_n 0, 1) := by decide +kernel
theorem dX1_firstOf_9 : decode cX1_firstOf 9 = .ok (.getfield 18, 3) := by decide +kernel
theorem dX1_firstOf_12 : decode cX1_firstOf 12 = .ok (.iload_n 1, 1) := by decide +kernel
theorem dX1_firstOf_13 : decode cX1_firstOf 13 = .ok (.iaload, 1) := by decide +kernel
theorem dX1_firstOf_14 : decode cX1_firstOf 14 = .ok (.goto 5, 3) := by decide +kernel
theorem dX1_firstOf_17 : decode cX1_firstOf 17 = .ok (.bipush (-9), 2) := by decide +kernel
theorem dX1_firstOf_19 : decode cX1_firstOf 19 = .ok (.ireturn, 1) := by decide +kernel
theorem dX1_secondOf_0 : decode cX1_secondOf 0 = .ok (.aload_n 0, 1) := by decide +kernel
theorem dX1_secondOf_1 : decode cX1_secondOf 1 = .ok (.iload_n 1, 1) := by decide +kernel
theorem dX1_secondOf_2 : decode cX1_secondOf 2 = .ok (.invokevirtual 47, 3) := by decide +kernel
theorem dX1_secondOf_5 : decode cX1_secondOf 5 = .ok (.ifCond .eq 12, 3) := by decide +kernel
theorem dX1_secondOf_8 : decode cX1_secondOf 8 = .ok (.aload_n 0, 1) := by decide +kernel
theorem dX1_secondOf_9 : decode cX1_secondOf 9 = .ok (.getfield 21, 3) := by decide +kernel
theorem dX1_secondOf_12 : decode cX1_secondOf 12 = .ok (.iload_n 1, 1) := by decide +kernel
theorem dX1_secondOf_13 : decode cX1_secondOf 13 = .ok (.iaload, 1) := by decide +kernel
theorem dX1_secondOf_14 : decode cX1_secondOf 14 = .ok (.goto 5, 3) := by decide +kernel
theorem dX1_secondOf_17 : decode cX1_secondOf 17 = .ok (.bipush (-9), 2) := by decide +kernel
theorem dX1_secondOf_19 : decode cX1_secondOf 19 = .ok (.ireturn, 1) := by decide +kernel
theorem dX1_pieceCount_0 : decode cX1_pieceCount 0 = .ok (.aload_n 0, 1) := by decide +kernel
theorem dX1_pieceCount_1 : decode cX1_pieceCount 1 = .ok (.iload_n 1, 1) := by decide +kernel
theorem dX1_pieceCount_2 : decode cX1_pieceCount 2 = .ok (.invokevirtual 47, 3) := by decide +kernel
theorem dX1_pieceCount_5 : decode cX1_pieceCount 5 = .ok (.ifCond .eq 12, 3) := by decide +kernel
theorem dX1_pieceCount_8 : decode cX1_pieceCount 8 = .ok (.aload_n 0, 1) := by decide +kernel
theorem dX1_pieceCount_9 : decode cX1_pieceCount 9 = .ok (.getfield 24, 3) := by decide +kernel
theorem dX1_pieceCount_12 : decode cX1_pieceCount 12 = .ok (.iload_n 1, 1) := by decide +kernel
theorem dX1_pieceCount_13 : decode cX1_pieceCount 13 = .ok (.iaload, 1) := by decide +kernel
theorem dX1_pieceCount_14 : decode cX1_pieceCount 14 = .ok (.goto 4, 3) := by decide +kernel
theorem dX1_pieceCount_17 : decode cX1_pieceCount 17 = .ok (.iconst 0, 1) := by decide +kernel
theorem dX1_pieceCount_18 : decode cX1_pieceCount 18 = .ok (.ireturn, 1) := by decide +kernel
theorem dX1_piece_0 : decode cX1_piece 0 = .ok (.aload_n 0, 1) := by decide +kernel
theorem dX1_piece_1 : decode cX1_piece 1 = .ok (.iload_n 1, 1) := by decide +kernel
theorem dX1_piece_2 : decode cX1_piece 2 = .ok (.invokevirtual 47, 3) := by decide +kernel
theorem dX1_piece_5 : decode cX1_piece 5 = .ok (.ifCond .eq 22, 3) := by decide +kernel
theorem dX1_piece_8 : decode cX1_piece 8 = .ok (.iload_n 2, 1) := by decide +kernel
theorem dX1_piece_9 : decode cX1_piece 9 = .ok (.ifCond .lt 18, 3) := by decide +kernel
theorem dX1_piece_12 : decode cX1_piece 12 = .ok (.iload_n 2, 1) := by decide +kernel
theorem dX1_piece_13 : decode cX1_piece 13 = .ok (.iconst 4, 1) := by decide +kernel
theorem dX1_piece_14 : decode cX1_piece 14 = .ok (.if_icmp .ge 13, 3) := by decide +kernel
theorem dX1_piece_17 : decode cX1_piece 17 = .ok (.iload_n 2, 1) := by decide +kernel
theorem dX1_piece_18 : decode cX1_piece 18 = .ok (.aload_n 0, 1) := by decide +kernel
theorem dX1_piece_19 : decode cX1_piece 19 = .ok (.getfield 24, 3) := by decide +kernel
theorem dX1_piece_22 : decode cX1_piece 22 = .ok (.iload_n 1, 1) := by decide +kernel
theorem dX1_piece_23 : decode cX1_piece 23 = .ok (.iaload, 1) := by decide +kernel
theorem dX1_piece_24 : decode cX1_piece 24 = .ok (.if_icmp .lt 6, 3) := by decide +kernel
theorem dX1_piece_27 : decode cX1_piece 27 = .ok (.bipush (-9), 2) := by decide +kernel
theorem dX1_piece_29 : decode cX1_piece 29 = .ok (.ireturn, 1) := by decide +kernel
theorem dX1_piece_30 : decode cX1_piece 30 = .ok (.aload_n 0, 1) := by decide +kernel
theorem dX1_piece_31 : decode cX1_piece 31 = .ok (.getfield 27, 3) := by decide +kernel
theorem dX1_piece_34 : decode cX1_piece 34 = .ok (.iload_n 1, 1) := by decide +kernel
theorem dX1_piece_35 : decode cX1_piece 35 = .ok (.iconst 4, 1) := by decide +kernel
theorem dX1_piece_36 : decode cX1_piece 36 = .ok (.imul, 1) := by decide +kernel
theorem dX1_piece_37 : decode cX1_piece 37 = .ok (.iload_n 2, 1) := by decide +kernel
theorem dX1_piece_38 : decode cX1_piece 38 = .ok (.iadd, 1) := by decide +kernel
theorem dX1_piece_39 : decode cX1_piece 39 = .ok (.iaload, 1) := by decide +kernel
theorem dX1_piece_40 : decode cX1_piece 40 = .ok (.ireturn, 1) := by decide +kernel
theorem dX1_pairOf_0 : decode cX1_pairOf 0 = .ok (.iconst 0, 1) := by decide +kernel
theorem dX1_pairOf_1 : decode cX1_pairOf 1 = .ok (.istore_n 3, 1) := by decide +kernel
theorem dX1_pairOf_2 : decode cX1_pairOf 2 = .ok (.iload_n 3, 1) := by decide +kernel
theorem dX1_pairOf_3 : decode cX1_pairOf 3 = .ok (.aload_n 0, 1) := by decide +kernel
theorem dX1_pairOf_4 : decode cX1_pairOf 4 = .ok (.getfield 35, 3) := by decide +kernel
theorem dX1_pairOf_7 : decode cX1_pairOf 7 = .ok (.invokevirtual 43, 3) := by decide +kernel
theorem dX1_pairOf_10 : decode cX1_pairOf 10 = .ok (.if_icmp .ge 42, 3) := by decide +kernel
theorem dX1_pairOf_13 : decode cX1_pairOf 13 = .ok (.aload_n 0, 1) := by decide +kernel
theorem dX1_pairOf_14 : decode cX1_pairOf 14 = .ok (.getfield 35, 3) := by decide +kernel
theorem dX1_pairOf_17 : decode cX1_pairOf 17 = .ok (.iload_n 3, 1) := by decide +kernel
theorem dX1_pairOf_18 : decode cX1_pairOf 18 = .ok (.invokevirtual 55, 3) := by decide +kernel
theorem dX1_pairOf_21 : decode cX1_pairOf 21 = .ok (.istore 4, 2) := by decide +kernel
theorem dX1_pairOf_23 : decode cX1_pairOf 23 = .ok (.aload_n 0, 1) := by decide +kernel
theorem dX1_pairOf_24 : decode cX1_pairOf 24 = .ok (.iload 4, 2) := by decide +kernel
theorem dX1_pairOf_26 : decode cX1_pairOf 26 = .ok (.invokevirtual 58, 3) := by decide +kernel
theorem dX1_pairOf_29 : decode cX1_pairOf 29 = .ok (.iload_n 1, 1) := by decide +kernel
theorem dX1_pairOf_30 : decode cX1_pairOf 30 = .ok (.if_icmp .ne 16, 3) := by decide +kernel
theorem dX1_pairOf_33 : decode cX1_pairOf 33 = .ok (.aload_n 0, 1) := by decide +kernel
theorem dX1_pairOf_34 : decode cX1_pairOf 34 = .ok (.iload 4, 2) := by decide +kernel
theorem dX1_pairOf_36 : decode cX1_pairOf 36 = .ok (.invokevirtual 61, 3) := by decide +kernel
theorem dX1_pairOf_39 : decode cX1_pairOf 39 = .ok (.iload_n 2, 1) := by decide +kernel
theorem dX1_pairOf_40 : decode cX1_pairOf 40 = .ok (.if_icmp .ne 6, 3) := by decide +kernel
theorem dX1_pairOf_43 : decode cX1_pairOf 43 = .ok (.iload 4, 2) := by decide +kernel
theorem dX1_pairOf_45 : decode cX1_pairOf 45 = .ok (.ireturn, 1) := by decide +kernel
theorem dX1_pairOf_46 : decode cX1_pairOf 46 = .ok (.iinc 3 1, 3) := by decide +kernel
theorem dX1_pairOf_49 : decode cX1_pairOf 49 = .ok (.goto (-47), 3) := by decide +kernel
theorem dX1_pairOf_52 : decode cX1_pairOf 52 = .ok (.bipush (-9), 2) := by decide +kernel
theorem dX1_pairOf_54 : decode cX1_pairOf 54 = .ok (.ireturn, 1) := by decide +kernel
theorem dX1_isSecondOfPair_0 : decode cX1_isSecondOfPair 0 = .ok (.iconst 0, 1) := by decide +kernel
theorem dX1_isSecondOfPair_1 : decode cX1_isSecondOfPair 1 = .ok (.istore_n 2, 1) := by decide +kernel
theorem dX1_isSecondOfPair_2 : decode cX1_isSecondOfPair 2 = .ok (.iload_n 2, 1) := by decide +kernel
theorem dX1_isSecondOfPair_3 : decode cX1_isSecondOfPair 3 = .ok (.aload_n 0, 1) := by decide +kernel
theorem dX1_isSecondOfPair_4 : decode cX1_isSecondOfPair 4 = .ok (.getfield 35, 3) := by decide +kernel
theorem dX1_isSecondOfPair_7 : decode cX1_isSecondOfPair 7 = .ok (.invokevirtual 43, 3) := by decide +kernel
theorem dX1_isSecondOfPair_10 : decode cX1_isSecondOfPair 10 = .ok (.if_icmp .ge 27, 3) := by decide +kernel
theorem dX1_isSecondOfPair_13 : decode cX1_isSecondOfPair 13 = .ok (.aload_n 0, 1) := by decide +kernel
theorem dX1_isSecondOfPair_14 : decode cX1_isSecondOfPair 14 = .ok (.aload_n 0, 1) := by decide +kernel
theorem dX1_isSecondOfPair_15 : decode cX1_isSecondOfPair 15 = .ok (.getfield 35, 3) := by decide +kernel
theorem dX1_isSecondOfPair_18 : decode cX1_isSecondOfPair 18 = .ok (.iload_n 2, 1) := by decide +kernel
theorem dX1_isSecondOfPair_19 : decode cX1_isSecondOfPair 19 = .ok (.invokevirtual 55, 3) := by decide +kernel
theorem dX1_isSecondOfPair_22 : decode cX1_isSecondOfPair 22 = .ok (.invokevirtual 61, 3) := by decide +kernel
theorem dX1_isSecondOfPair_25 : decode cX1_isSecondOfPair 25 = .ok (.iload_n 1, 1) := by decide +kernel
theorem dX1_isSecondOfPair_26 : decode cX1_isSecondOfPair 26 = .ok (.if_icmp .ne 5, 3) := by decide +kernel
theorem dX1_isSecondOfPair_29 : decode cX1_isSecondOfPair 29 = .ok (.iconst 1, 1) := by decide +kernel
theorem dX1_isSecondOfPair_30 : decode cX1_isSecondOfPair 30 = .ok (.ireturn, 1) := by decide +kernel
theorem dX1_isSecondOfPair_31 : decode cX1_isSecondOfPair 31 = .ok (.iinc 2 1, 3) := by decide +kernel
theorem dX1_isSecondOfPair_34 : decode cX1_isSecondOfPair 34 = .ok (.goto (-32), 3) := by decide +kernel
theorem dX1_isSecondOfPair_37 : decode cX1_isSecondOfPair 37 = .ok (.iconst 0, 1) := by decide +kernel
theorem dX1_isSecondOfPair_38 : decode cX1_isSecondOfPair 38 = .ok (.ireturn, 1) := by decide +kernel
theorem dX1_piecesStandAt_0 : decode cX1_piecesStandAt 0 = .ok (.iconst 0, 1) := by decide +kernel
theorem dX1_piecesStandAt_1 : decode cX1_piecesStandAt 1 = .ok (.istore 4, 2) := by decide +kernel
theorem dX1_piecesStandAt_3 : decode cX1_piecesStandAt 3 = .ok (.iload 4, 2) := by decide +kernel
theorem dX1_piecesStandAt_5 : decode cX1_piecesStandAt 5 = .ok (.aload_n 0, 1) := by decide +kernel
theorem dX1_piecesStandAt_6 : decode cX1_piecesStandAt 6 = .ok (.iload_n 1, 1) := by decide +kernel
theorem dX1_piecesStandAt_7 : decode cX1_piecesStandAt 7 = .ok (.invokevirtual 64, 3) := by decide +kernel
theorem dX1_piecesStandAt_10 : decode cX1_piecesStandAt 10 = .ok (.if_icmp .ge 40, 3) := by decide +kernel
theorem dX1_piecesStandAt_13 : decode cX1_piecesStandAt 13 = .ok (.aload_n 2, 1) := by decide +kernel
theorem dX1_piecesStandAt_14 : decode cX1_piecesStandAt 14 = .ok (.iload_n 3, 1) := by decide +kernel
theorem dX1_piecesStandAt_15 : decode cX1_piecesStandAt 15 = .ok (.iload 4, 2) := by decide +kernel
theorem dX1_piecesStandAt_17 : decode cX1_piecesStandAt 17 = .ok (.iadd, 1) := by decide +kernel
theorem dX1_piecesStandAt_18 : decode cX1_piecesStandAt 18 = .ok (.invokevirtual 67, 3) := by decide +kernel
theorem dX1_piecesStandAt_21 : decode cX1_piecesStandAt 21 = .ok (.ifCond .eq 21, 3) := by decide +kernel
theorem dX1_piecesStandAt_24 : decode cX1_piecesStandAt 24 = .ok (.aload_n 2, 1) := by decide +kernel
theorem dX1_piecesStandAt_25 : decode cX1_piecesStandAt 25 = .ok (.iload_n 3, 1) := by decide +kernel
theorem dX1_piecesStandAt_26 : decode cX1_piecesStandAt 26 = .ok (.iload 4, 2) := by decide +kernel
theorem dX1_piecesStandAt_28 : decode cX1_piecesStandAt 28 = .ok (.iadd, 1) := by decide +kernel
theorem dX1_piecesStandAt_29 : decode cX1_piecesStandAt 29 = .ok (.invokevirtual 55, 3) := by decide +kernel
theorem dX1_piecesStandAt_32 : decode cX1_piecesStandAt 32 = .ok (.aload_n 0, 1) := by decide +kernel
theorem dX1_piecesStandAt_33 : decode cX1_piecesStandAt 33 = .ok (.iload_n 1, 1) := by decide +kernel
theorem dX1_piecesStandAt_34 : decode cX1_piecesStandAt 34 = .ok (.iload 4, 2) := by decide +kernel
theorem dX1_piecesStandAt_36 : decode cX1_piecesStandAt 36 = .ok (.invokevirtual 70, 3) := by decide +kernel
theorem dX1_piecesStandAt_39 : decode cX1_piecesStandAt 39 = .ok (.if_icmp .eq 5, 3) := by decide +kernel
theorem dX1_piecesStandAt_42 : decode cX1_piecesStandAt 42 = .ok (.iconst 0, 1) := by decide +kernel
theorem dX1_piecesStandAt_43 : decode cX1_piecesStandAt 43 = .ok (.ireturn, 1) := by decide +kernel
theorem dX1_piecesStandAt_44 : decode cX1_piecesStandAt 44 = .ok (.iinc 4 1, 3) := by decide +kernel
theorem dX1_piecesStandAt_47 : decode cX1_piecesStandAt 47 = .ok (.goto (-44), 3) := by decide +kernel
theorem dX1_piecesStandAt_50 : decode cX1_piecesStandAt 50 = .ok (.iconst 1, 1) := by decide +kernel
theorem dX1_piecesStandAt_51 : decode cX1_piecesStandAt 51 = .ok (.ireturn, 1) := by decide +kernel
theorem dX1_countKind_0 : decode cX1_countKind 0 = .ok (.iconst 0, 1) := by decide +kernel
theorem dX1_countKind_1 : decode cX1_countKind 1 = .ok (.istore_n 2, 1) := by decide +kernel
theorem dX1_countKind_2 : decode cX1_countKind 2 = .ok (.iconst 0, 1) := by decide +kernel
theorem dX1_countKind_3 : decode cX1_countKind 3 = .ok (.istore_n 3, 1) := by decide +kernel
theorem dX1_countKind_4 : decode cX1_countKind 4 = .ok (.iload_n 3, 1) := by decide +kernel
theorem dX1_countKind_5 : decode cX1_countKind 5 = .ok (.aload_n 0, 1) := by decide +kernel
theorem dX1_countKind_6 : decode cX1_countKind 6 = .ok (.getfield 39, 3) := by decide +kernel
theorem dX1_countKind_9 : decode cX1_countKind 9 = .ok (.if_icmp .ge 21, 3) := by decide +kernel
theorem dX1_countKind_12 : decode cX1_countKind 12 = .ok (.aload_n 0, 1) := by decide +kernel
theorem dX1_countKind_13 : decode cX1_countKind 13 = .ok (.iload_n 3, 1) := by decide +kernel
theorem dX1_countKind_14 : decode cX1_countKind 14 = .ok (.invokevirtual 74, 3) := by decide +kernel
theorem dX1_countKind_17 : decode cX1_countKind 17 = .ok (.iload_n 1, 1) := by decide +kernel
theorem dX1_countKind_18 : decode cX1_countKind 18 = .ok (.if_icmp .ne 6, 3) := by decide +kernel
theorem dX1_countKind_21 : decode cX1_countKind 21 = .ok (.iinc 2 1, 3) := by decide +kernel
theorem dX1_countKind_24 : decode cX1_countKind 24 = .ok (.iinc 3 1, 3) := by decide +kernel
theorem dX1_countKind_27 : decode cX1_countKind 27 = .ok (.goto (-23), 3) := by decide +kernel
theorem dX1_countKind_30 : decode cX1_countKind 30 = .ok (.iload_n 2, 1) := by decide +kernel
theorem dX1_countKind_31 : decode cX1_countKind 31 = .ok (.ireturn, 1) := by decide +kernel
theorem dX1_countMarks_0 : decode cX1_countMarks 0 = .ok (.iconst 0, 1) := by decide +kernel
theorem dX1_countMarks_1 : decode cX1_countMarks 1 = .ok (.istore_n 1, 1) := by decide +kernel
theorem dX1_countMarks_2 : decode cX1_countMarks 2 = .ok (.iconst 0, 1) := by decide +kernel
theorem dX1_countMarks_3 : decode cX1_countMarks 3 = .ok (.istore_n 2, 1) := by decide +kernel
theorem dX1_countMarks_4 : decode cX1_countMarks 4 = .ok (.iload_n 2, 1) := by decide +kernel
theorem dX1_countMarks_5 : decode cX1_countMarks 5 = .ok (.aload_n 0, 1) := by decide +kernel
theorem dX1_countMarks_6 : decode cX1_countMarks 6 = .ok (.getfield 39, 3) := by decide +kernel
theorem dX1_countMarks_9 : decode cX1_countMarks 9 = .ok (.if_icmp .ge 20, 3) := by decide +kernel
theorem dX1_countMarks_12 : decode cX1_countMarks 12 = .ok (.aload_n 0, 1) := by decide +kernel
theorem dX1_countMarks_13 : decode cX1_countMarks 13 = .ok (.iload_n 2, 1) := by decide +kernel
theorem dX1_countMarks_14 : decode cX1_countMarks 14 = .ok (.invokevirtual 77, 3) := by decide +kernel
theorem dX1_countMarks_17 : decode cX1_countMarks 17 = .ok (.ifCond .ne 6, 3) := by decide +kernel
theorem dX1_countMarks_20 : decode cX1_countMarks 20 = .ok (.iinc 1 1, 3) := by decide +kernel
theorem dX1_countMarks_23 : decode cX1_countMarks 23 = .ok (.iinc 2 1, 3) := by decide +kernel
theorem dX1_countMarks_26 : decode cX1_countMarks 26 = .ok (.goto (-22), 3) := by decide +kernel
theorem dX1_countMarks_29 : decode cX1_countMarks 29 = .ok (.iload_n 1, 1) := by decide +kernel
theorem dX1_countMarks_30 : decode cX1_countMarks 30 = .ok (.ireturn, 1) := by decide +kernel
theorem dX1_mayBeFirst_0 : decode cX1_mayBeFirst 0 = .ok (.aload_n 0, 1) := by decide +kernel
theorem dX1_mayBeFirst_1 : decode cX1_mayBeFirst 1 = .ok (.iload_n 1, 1) := by decide +kernel
theorem dX1_mayBeFirst_2 : decode cX1_mayBeFirst 2 = .ok (.invokevirtual 74, 3) := by decide +kernel
theorem dX1_mayBeFirst_5 : decode cX1_mayBeFirst 5 = .ok (.istore_n 2, 1) := by decide +kernel
theorem dX1_mayBeFirst_6 : decode cX1_mayBeFirst 6 = .ok (.aload_n 0, 1) := by decide +kernel
theorem dX1_mayBeFirst_7 : decode cX1_mayBeFirst 7 = .ok (.iload_n 1, 1) := by decide +kernel
theorem dX1_mayBeFirst_8 : decode cX1_mayBeFirst 8 = .ok (.invokevirtual 51, 3) := by decide +kernel
theorem dX1_mayBeFirst_11 : decode cX1_mayBeFirst 11 = .ok (.ifCond .ne 16, 3) := by decide +kernel
theorem dX1_mayBeFirst_14 : decode cX1_mayBeFirst 14 = .ok (.iload_n 2, 1) := by decide +kernel
theorem dX1_mayBeFirst_15 : decode cX1_mayBeFirst 15 = .ok (.ifCond .eq 8, 3) := by decide +kernel
theorem dX1_mayBeFirst_18 : decode cX1_mayBeFirst 18 = .ok (.iload_n 2, 1) := by decide +kernel
theorem dX1_mayBeFirst_19 : decode cX1_mayBeFirst 19 = .ok (.iconst 1, 1) := by decide +kernel
theorem dX1_mayBeFirst_20 : decode cX1_mayBeFirst 20 = .ok (.if_icmp .ne 7, 3) := by decide +kernel
theorem dX1_mayBeFirst_23 : decode cX1_mayBeFirst 23 = .ok (.iconst 1, 1) := by decide +kernel
theorem dX1_mayBeFirst_24 : decode cX1_mayBeFirst 24 = .ok (.goto 4, 3) := by decide +kernel
theorem dX1_mayBeFirst_27 : decode cX1_mayBeFirst 27 = .ok (.iconst 0, 1) := by decide +kernel
theorem dX1_mayBeFirst_28 : decode cX1_mayBeFirst 28 = .ok (.istore_n 3, 1) := by decide +kernel
theorem dX1_mayBeFirst_29 : decode cX1_mayBeFirst 29 = .ok (.iload_n 3, 1) := by decide +kernel
theorem dX1_mayBeFirst_30 : decode cX1_mayBeFirst 30 = .ok (.ifCond .eq 16, 3) := by decide +kernel
theorem dX1_mayBeFirst_33 : decode cX1_mayBeFirst 33 = .ok (.aload_n 0, 1) := by decide +kernel
theorem dX1_mayBeFirst_34 : decode cX1_mayBeFirst 34 = .ok (.iload_n 1, 1) := by decide +kernel
theorem dX1_mayBeFirst_35 : decode cX1_mayBeFirst 35 = .ok (.invokevirtual 64, 3) := by decide +kernel
theorem dX1_mayBeFirst_38 : decode cX1_mayBeFirst 38 = .ok (.iconst 4, 1) := by decide +kernel
theorem dX1_mayBeFirst_39 : decode cX1_mayBeFirst 39 = .ok (.if_icmp .ge 7, 3) := by decide +kernel
theorem dX1_mayBeFirst_42 : decode cX1_mayBeFirst 42 = .ok (.iconst 1, 1) := by decide +kernel
theorem dX1_mayBeFirst_43 : decode cX1_mayBeFirst 43 = .ok (.goto 4, 3) := by decide +kernel
theorem dX1_mayBeFirst_46 : decode cX1_mayBeFirst 46 = .ok (.iconst 0, 1) := by decide +kernel
theorem dX1_mayBeFirst_47 : decode cX1_mayBeFirst 47 = .ok (.ireturn, 1) := by decide +kernel
theorem dX1_mayBeSecond_0 : decode cX1_mayBeSecond 0 = .ok (.aload_n 0, 1) := by decide +kernel
theorem dX1_mayBeSecond_1 : decode cX1_mayBeSecond 1 = .ok (.iload_n 3, 1) := by decide +kernel
theorem dX1_mayBeSecond_2 : decode cX1_mayBeSecond 2 = .ok (.invokevirtual 74, 3) := by decide +kernel
theorem dX1_mayBeSecond_5 : decode cX1_mayBeSecond 5 = .ok (.ifCond .eq 5, 3) := by decide +kernel
theorem dX1_mayBeSecond_8 : decode cX1_mayBeSecond 8 = .ok (.iconst 0, 1) := by decide +kernel
theorem dX1_mayBeSecond_9 : decode cX1_mayBeSecond 9 = .ok (.ireturn, 1) := by decide +kernel
theorem dX1_mayBeSecond_10 : decode cX1_mayBeSecond 10 = .ok (.aload_n 0, 1) := by decide +kernel
theorem dX1_mayBeSecond_11 : decode cX1_mayBeSecond 11 = .ok (.iload_n 3, 1) := by decide +kernel
theorem dX1_mayBeSecond_12 : decode cX1_mayBeSecond 12 = .ok (.invokevirtual 51, 3) := by decide +kernel
theorem dX1_mayBeSecond_15 : decode cX1_mayBeSecond 15 = .ok (.istore 4, 2) := by decide +kernel
theorem dX1_mayBeSecond_17 : decode cX1_mayBeSecond 17 = .ok (.aload_n 0, 1) := by decide +kernel
theorem dX1_mayBeSecond_18 : decode cX1_mayBeSecond 18 = .ok (.iload_n 2, 1) := by decide +kernel
theorem dX1_mayBeSecond_19 : decode cX1_mayBeSecond 19 = .ok (.aload_n 0, 1) := by decide +kernel
theorem dX1_mayBeSecond_20 : decode cX1_mayBeSecond 20 = .ok (.iload_n 2, 1) := by decide +kernel
theorem dX1_mayBeSecond_21 : decode cX1_mayBeSecond 21 = .ok (.invokevirtual 64, 3) := by decide +kernel
theorem dX1_mayBeSecond_24 : decode cX1_mayBeSecond 24 = .ok (.iconst 1, 1) := by decide +kernel
theorem dX1_mayBeSecond_25 : decode cX1_mayBeSecond 25 = .ok (.isub, 1) := by decide +kernel
theorem dX1_mayBeSecond_26 : decode cX1_mayBeSecond 26 = .ok (.invokevirtual 70, 3) := by decide +kernel
theorem dX1_mayBeSecond_29 : decode cX1_mayBeSecond 29 = .ok (.istore 5, 2) := by decide +kernel
theorem dX1_mayBeSecond_31 : decode cX1_mayBeSecond 31 = .ok (.iload_n 1, 1) := by decide +kernel
theorem dX1_mayBeSecond_32 : decode cX1_mayBeSecond 32 = .ok (.iconst 1, 1) := by decide +kernel
theorem dX1_mayBeSecond_33 : decode cX1_mayBeSecond 33 = .ok (.if_icmp .ne 19, 3) := by decide +kernel
theorem dX1_mayBeSecond_36 : decode cX1_mayBeSecond 36 = .ok (.iload 4, 2) := by decide +kernel
theorem dX1_mayBeSecond_38 : decode cX1_mayBeSecond 38 = .ok (.ifCond .eq 14, 3) := by decide +kernel
theorem dX1_mayBeSecond_41 : decode cX1_mayBeSecond 41 = .ok (.iload 4, 2) := by decide +kernel
theorem dX1_mayBeSecond_43 : decode cX1_mayBeSecond 43 = .ok (.aload_n 0, 1) := by decide +kernel
theorem dX1_mayBeSecond_44 : decode cX1_mayBeSecond 44 = .ok (.iload 5, 2) := by decide +kernel
theorem dX1_mayBeSecond_46 : decode cX1_mayBeSecond 46 = .ok (.invokevirtual 51, 3) := by decide +kernel
theorem dX1_mayBeSecond_49 : decode cX1_mayBeSecond 49 = .ok (.if_icmp .lt 7, 3) := by decide +kernel
theorem dX1_mayBeSecond_52 : decode cX1_mayBeSecond 52 = .ok (.iconst 1, 1) := by decide +kernel
theorem dX1_mayBeSecond_53 : decode cX1_mayBeSecond 53 = .ok (.goto 4, 3) := by decide +kernel
theorem dX1_mayBeSecond_56 : decode cX1_mayBeSecond 56 = .ok (.iconst 0, 1) := by decide +kernel
theorem dX1_mayBeSecond_57 : decode cX1_mayBeSecond 57 = .ok (.ireturn, 1) := by decide +kernel
theorem dX1_empty_0 : decode cX1_empty 0 = .ok (.aload_n 0, 1) := by decide +kernel
theorem dX1_empty_1 : decode cX1_empty 1 = .ok (.iconst 0, 1) := by decide +kernel
theorem dX1_empty_2 : decode cX1_empty 2 = .ok (.putfield 39, 3) := by decide +kernel
theorem dX1_empty_5 : decode cX1_empty 5 = .ok (.aload_n 0, 1) := by decide +kernel
theorem dX1_empty_6 : decode cX1_empty 6 = .ok (.getfield 35, 3) := by decide +kernel
theorem dX1_empty_9 : decode cX1_empty 9 = .ok (.invokevirtual 80, 3) := by decide +kernel
theorem dX1_empty_12 : decode cX1_empty 12 = .ok (.return_, 1) := by decide +kernel
theorem dX1_add_0 : decode cX1_add 0 = .ok (.aload_n 0, 1) := by decide +kernel
theorem dX1_add_1 : decode cX1_add 1 = .ok (.getfield 39, 3) := by decide +kernel
theorem dX1_add_4 : decode cX1_add 4 = .ok (.ifCond .lt 12, 3) := by decide +kernel
theorem dX1_add_7 : decode cX1_add 7 = .ok (.aload_n 0, 1) := by decide +kernel
theorem dX1_add_8 : decode cX1_add 8 = .ok (.getfield 39, 3) := by decide +kernel
theorem dX1_add_11 : decode cX1_add 11 = .ok (.bipush 24, 2) := by decide +kernel
theorem dX1_add_13 : decode cX1_add 13 = .ok (.if_icmp .lt 4, 3) := by decide +kernel
theorem dX1_add_16 : decode cX1_add 16 = .ok (.return_, 1) := by decide +kernel
theorem dX1_add_17 : decode cX1_add 17 = .ok (.aload_n 0, 1) := by decide +kernel
theorem dX1_add_18 : decode cX1_add 18 = .ok (.getfield 9, 3) := by decide +kernel
theorem dX1_add_21 : decode cX1_add 21 = .ok (.aload_n 0, 1) := by decide +kernel
theorem dX1_add_22 : decode cX1_add 22 = .ok (.getfield 39, 3) := by decide +kernel
theorem dX1_add_25 : decode cX1_add 25 = .ok (.iload_n 1, 1) := by decide +kernel
theorem dX1_add_26 : decode cX1_add 26 = .ok (.iastore, 1) := by decide +kernel
theorem dX1_add_27 : decode cX1_add 27 = .ok (.aload_n 0, 1) := by decide +kernel
theorem dX1_add_28 : decode cX1_add 28 = .ok (.getfield 15, 3) := by decide +kernel
theorem dX1_add_31 : decode cX1_add 31 = .ok (.aload_n 0, 1) := by decide +kernel
theorem dX1_add_32 : decode cX1_add 32 = .ok (.getfield 39, 3) := by decide +kernel
theorem dX1_add_35 : decode cX1_add 35 = .ok (.iload_n 2, 1) := by decide +kernel
theorem dX1_add_36 : decode cX1_add 36 = .ok (.iastore, 1) := by decide +kernel
theorem dX1_add_37 : decode cX1_add 37 = .ok (.aload_n 0, 1) := by decide +kernel
theorem dX1_add_38 : decode cX1_add 38 = .ok (.getfield 18, 3) := by decide +kernel
theorem dX1_add_41 : decode cX1_add 41 = .ok (.aload_n 0, 1) := by decide +kernel
theorem dX1_add_42 : decode cX1_add 42 = .ok (.getfield 39, 3) := by decide +kernel
theorem dX1_add_45 : decode cX1_add 45 = .ok (.iload_n 3, 1) := by decide +kernel
theorem dX1_add_46 : decode cX1_add 46 = .ok (.iastore, 1) := by decide +kernel
theorem dX1_add_47 : decode cX1_add 47 = .ok (.aload_n 0, 1) := by decide +kernel
theorem dX1_add_48 : decode cX1_add 48 = .ok (.getfield 21, 3) := by decide +kernel
theorem dX1_add_51 : decode cX1_add 51 = .ok (.aload_n 0, 1) := by decide +kernel
theorem dX1_add_52 : decode cX1_add 52 = .ok (.getfield 39, 3) := by decide +kernel
theorem dX1_add_55 : decode cX1_add 55 = .ok (.iload 4, 2) := by decide +kernel
theorem dX1_add_57 : decode cX1_add 57 = .ok (.iastore, 1) := by decide +kernel
theorem dX1_add_58 : decode cX1_add 58 = .ok (.aload_n 0, 1) := by decide +kernel
theorem dX1_add_59 : decode cX1_add 59 = .ok (.getfield 24, 3) := by decide +kernel
theorem dX1_add_62 : decode cX1_add 62 = .ok (.aload_n 0, 1) := by decide +kernel
theorem dX1_add_63 : decode cX1_add 63 = .ok (.getfield 39, 3) := by decide +kernel
theorem dX1_add_66 : decode cX1_add 66 = .ok (.iconst 0, 1) := by decide +kernel
theorem dX1_add_67 : decode cX1_add 67 = .ok (.iastore, 1) := by decide +kernel
theorem dX1_add_68 : decode cX1_add 68 = .ok (.iload_n 1, 1) := by decide +kernel
theorem dX1_add_69 : decode cX1_add 69 = .ok (.ifCond .ne 11, 3) := by decide +kernel
theorem dX1_add_72 : decode cX1_add 72 = .ok (.aload_n 0, 1) := by decide +kernel
theorem dX1_add_73 : decode cX1_add 73 = .ok (.aload_n 0, 1) := by decide +kernel
theorem dX1_add_74 : decode cX1_add 74 = .ok (.getfield 39, 3) := by decide +kernel
theorem dX1_add_77 : decode cX1_add 77 = .ok (.invokevirtual 83, 3) := by decide +kernel
theorem dX1_add_80 : decode cX1_add 80 = .ok (.aload_n 0, 1) := by decide +kernel
theorem dX1_add_81 : decode cX1_add 81 = .ok (.iload_n 3, 1) := by decide +kernel
theorem dX1_add_82 : decode cX1_add 82 = .ok (.invokevirtual 86, 3) := by decide +kernel
theorem dX1_add_85 : decode cX1_add 85 = .ok (.aload_n 0, 1) := by decide +kernel
theorem dX1_add_86 : decode cX1_add 86 = .ok (.iload 4, 2) := by decide +kernel
theorem dX1_add_88 : decode cX1_add 88 = .ok (.invokevirtual 86, 3) := by decide +kernel
theorem dX1_add_91 : decode cX1_add 91 = .ok (.iload_n 1, 1) := by decide +kernel
theorem dX1_add_92 : decode cX1_add 92 = .ok (.iconst 1, 1) := by decide +kernel
theorem dX1_add_93 : decode cX1_add 93 = .ok (.if_icmp .ne 15, 3) := by decide +kernel
theorem dX1_add_96 : decode cX1_add 96 = .ok (.aload_n 0, 1) := by decide +kernel
theorem dX1_add_97 : decode cX1_add 97 = .ok (.getfield 35, 3) := by decide +kernel
theorem dX1_add_100 : decode cX1_add 100 = .ok (.aload_n 0, 1) := by decide +kernel
theorem dX1_add_101 : decode cX1_add 101 = .ok (.getfield 39, 3) := by decide +kernel
theorem dX1_add_104 : decode cX1_add 104 = .ok (.invokevirtual 89, 3) := by decide +kernel
theorem dX1_add_107 : decode cX1_add 107 = .ok (.pop, 1) := by decide +kernel
theorem dX1_add_108 : decode cX1_add 108 = .ok (.aload_n 0, 1) := by decide +kernel
theorem dX1_add_109 : decode cX1_add 109 = .ok (.dup, 1) := by decide +kernel
theorem dX1_add_110 : decode cX1_add 110 = .ok (.getfield 39, 3) := by decide +kernel
theorem dX1_add_113 : decode cX1_add 113 = .ok (.iconst 1, 1) := by decide +kernel
theorem dX1_add_114 : decode cX1_add 114 = .ok (.iadd, 1) := by decide +kernel
theorem dX1_add_115 : decode cX1_add 115 = .ok (.putfield 39, 3) := by decide +kernel
theorem dX1_add_118 : decode cX1_add 118 = .ok (.return_, 1) := by decide +kernel
theorem dX1_addPiecesOf_0 : decode cX1_addPiecesOf 0 = .ok (.iconst 0, 1) := by decide +kernel
theorem dX1_addPiecesOf_1 : decode cX1_addPiecesOf 1 = .ok (.istore_n 2, 1) := by decide +kernel
theorem dX1_addPiecesOf_2 : decode cX1_addPiecesOf 2 = .ok (.iload_n 2, 1) := by decide +kernel
theorem dX1_addPiecesOf_3 : decode cX1_addPiecesOf 3 = .ok (.aload_n 0, 1) := by decide +kernel
theorem dX1_addPiecesOf_4 : decode cX1_addPiecesOf 4 = .ok (.iload_n 1, 1) := by decide +kernel
theorem dX1_addPiecesOf_5 : decode cX1_addPiecesOf 5 = .ok (.invokevirtual 64, 3) := by decide +kernel
theorem dX1_addPiecesOf_8 : decode cX1_addPiecesOf 8 = .ok (.if_icmp .ge 19, 3) := by decide +kernel
theorem dX1_addPiecesOf_11 : decode cX1_addPiecesOf 11 = .ok (.aload_n 0, 1) := by decide +kernel
theorem dX1_addPiecesOf_12 : decode cX1_addPiecesOf 12 = .ok (.aload_n 0, 1) := by decide +kernel
theorem dX1_addPiecesOf_13 : decode cX1_addPiecesOf 13 = .ok (.iload_n 1, 1) := by decide +kernel
theorem dX1_addPiecesOf_14 : decode cX1_addPiecesOf 14 = .ok (.iload_n 2, 1) := by decide +kernel
theorem dX1_addPiecesOf_15 : decode cX1_addPiecesOf 15 = .ok (.invokevirtual 70, 3) := by decide +kernel
theorem dX1_addPiecesOf_18 : decode cX1_addPiecesOf 18 = .ok (.invokevirtual 83, 3) := by decide +kernel
theorem dX1_addPiecesOf_21 : decode cX1_addPiecesOf 21 = .ok (.iinc 2 1, 3) := by decide +kernel
theorem dX1_addPiecesOf_24 : decode cX1_addPiecesOf 24 = .ok (.goto (-22), 3) := by decide +kernel
theorem dX1_addPiecesOf_27 : decode cX1_addPiecesOf 27 = .ok (.return_, 1) := by decide +kernel
theorem dX1_addPiece_0 : decode cX1_addPiece 0 = .ok (.aload_n 0, 1) := by decide +kernel
theorem dX1_addPiece_1 : decode cX1_addPiece 1 = .ok (.getfield 39, 3) := by decide +kernel
theorem dX1_addPiece_4 : decode cX1_addPiece 4 = .ok (.ifCond .lt 12, 3) := by decide +kernel
theorem dX1_addPiece_7 : decode cX1_addPiece 7 = .ok (.aload_n 0, 1) := by decide +kernel
theorem dX1_addPiece_8 : decode cX1_addPiece 8 = .ok (.getfield 39, 3) := by decide +kernel
theorem dX1_addPiece_11 : decode cX1_addPiece 11 = .ok (.bipush 24, 2) := by decide +kernel
theorem dX1_addPiece_13 : decode cX1_addPiece 13 = .ok (.if_icmp .lt 4, 3) := by decide +kernel
theorem dX1_addPiece_16 : decode cX1_addPiece 16 = .ok (.return_, 1) := by decide +kernel
theorem dX1_addPiece_17 : decode cX1_addPiece 17 = .ok (.aload_n 0, 1) := by decide +kernel
theorem dX1_addPiece_18 : decode cX1_addPiece 18 = .ok (.getfield 24, 3) := by decide +kernel
theorem dX1_addPiece_21 : decode cX1_addPiece 21 = .ok (.aload_n 0, 1) := by decide +kernel
theorem dX1_addPiece_22 : decode cX1_addPiece 22 = .ok (.getfield 39, 3) := by decide +kernel
theorem dX1_addPiece_25 : decode cX1_addPiece 25 = .ok (.iaload, 1) := by decide +kernel
theorem dX1_addPiece_26 : decode cX1_addPiece 26 = .ok (.istore_n 2, 1) := by decide +kernel
theorem dX1_addPiece_27 : decode cX1_addPiece 27 = .ok (.iload_n 2, 1) := by decide +kernel
theorem dX1_addPiece_28 : decode cX1_addPiece 28 = .ok (.ifCond .lt 8, 3) := by decide +kernel
theorem dX1_addPiece_31 : decode cX1_addPiece 31 = .ok (.iload_n 2, 1) := by decide +kernel
theorem dX1_addPiece_32 : decode cX1_addPiece 32 = .ok (.iconst 4, 1) := by decide +kernel
theorem dX1_addPiece_33 : decode cX1_addPiece 33 = .ok (.if_icmp .lt 4, 3) := by decide +kernel
theorem dX1_addPiece_36 : decode cX1_addPiece 36 = .ok (.return_, 1) := by decide +kernel
theorem dX1_addPiece_37 : decode cX1_addPiece 37 = .ok (.aload_n 0, 1) := by decide +kernel
theorem dX1_addPiece_38 : decode cX1_addPiece 38 = .ok (.getfield 27, 3) := by decide +kernel
theorem dX1_addPiece_41 : decode cX1_addPiece 41 = .ok (.aload_n 0, 1) := by decide +kernel
theorem dX1_addPiece_42 : decode cX1_addPiece 42 = .ok (.getfield 39, 3) := by decide +kernel
theorem dX1_addPiece_45 : decode cX1_addPiece 45 = .ok (.iconst 4, 1) := by decide +kernel
theorem dX1_addPiece_46 : decode cX1_addPiece 46 = .ok (.imul, 1) := by decide +kernel
theorem dX1_addPiece_47 : decode cX1_addPiece 47 = .ok (.iload_n 2, 1) := by decide +kernel
theorem dX1_addPiece_48 : decode cX1_addPiece 48 = .ok (.iadd, 1) := by decide +kernel
theorem dX1_addPiece_49 : decode cX1_addPiece 49 = .ok (.iload_n 1, 1) := by decide +kernel
theorem dX1_addPiece_50 : decode cX1_addPiece 50 = .ok (.iastore, 1) := by decide +kernel
theorem dX1_addPiece_51 : decode cX1_addPiece 51 = .ok (.aload_n 0, 1) := by decide +kernel
theorem dX1_addPiece_52 : decode cX1_addPiece 52 = .ok (.getfield 24, 3) := by decide +kernel
theorem dX1_addPiece_55 : decode cX1_addPiece 55 = .ok (.aload_n 0, 1) := by decide +kernel
theorem dX1_addPiece_56 : decode cX1_addPiece 56 = .ok (.getfield 39, 3) := by decide +kernel
theorem dX1_addPiece_59 : decode cX1_addPiece 59 = .ok (.iload_n 2, 1) := by decide +kernel
theorem dX1_addPiece_60 : decode cX1_addPiece 60 = .ok (.iconst 1, 1) := by decide +kernel
theorem dX1_addPiece_61 : decode cX1_addPiece 61 = .ok (.iadd, 1) := by decide +kernel
theorem dX1_addPiece_62 : decode cX1_addPiece 62 = .ok (.iastore, 1) := by decide +kernel
theorem dX1_addPiece_63 : decode cX1_addPiece 63 = .ok (.return_, 1) := by decide +kernel
theorem dX2_init_0 : decode cX2_init 0 = .ok (.aload_n 0, 1) := by decide +kernel
theorem dX2_init_1 : decode cX2_init 1 = .ok (.invokespecial 3, 3) := by decide +kernel
theorem dX2_init_4 : decode cX2_init 4 = .ok (.aload_n 0, 1) := by decide +kernel
theorem dX2_init_5 : decode cX2_init 5 = .ok (.bipush 10, 2) := by decide +kernel
theorem dX2_init_7 : decode cX2_init 7 = .ok (.anewarray 9, 3) := by decide +kernel
theorem dX2_init_10 : decode cX2_init 10 = .ok (.putfield 11, 3) := by decide +kernel
theorem dX2_init_13 : decode cX2_init 13 = .ok (.aload_n 0, 1) := by decide +kernel
theorem dX2_init_14 : decode cX2_init 14 = .ok (.bipush 10, 2) := by decide +kernel
theorem dX2_init_16 : decode cX2_init 16 = .ok (.newarray .int, 2) := by decide +kernel
theorem dX2_init_18 : decode cX2_init 18 = .ok (.putfield 17, 3) := by decide +kernel
theorem dX2_init_21 : decode cX2_init 21 = .ok (.iconst 0, 1) := by decide +kernel
theorem dX2_init_22 : decode cX2_init 22 = .ok (.istore_n 1, 1) := by decide +kernel
theorem dX2_init_23 : decode cX2_init 23 = .ok (.iload_n 1, 1) := by decide +kernel
theorem dX2_init_24 : decode cX2_init 24 = .ok (.bipush 10, 2) := by decide +kernel
theorem dX2_init_26 : decode cX2_init 26 = .ok (.if_icmp .ge 24, 3) := by decide +kernel
theorem dX2_init_29 : decode cX2_init 29 = .ok (.aload_n 0, 1) := by decide +kernel
theorem dX2_init_30 : decode cX2_init 30 = .ok (.getfield 11, 3) := by decide +kernel
theorem dX2_init_33 : decode cX2_init 33 = .ok (.iload_n 1, 1) := by decide +kernel
theorem dX2_init_34 : decode cX2_init 34 = .ok (.new 9, 3) := by decide +kernel
theorem dX2_init_37 : decode cX2_init 37 = .ok (.dup, 1) := by decide +kernel
theorem dX2_init_38 : decode cX2_init 38 = .ok (.bipush 16, 2) := by decide +kernel
theorem dX2_init_40 : decode cX2_init 40 = .ok (.invokespecial 21, 3) := by decide +kernel
theorem dX2_init_43 : decode cX2_init 43 = .ok (.aastore, 1) := by decide +kernel
theorem dX2_init_44 : decode cX2_init 44 = .ok (.iinc 1 1, 3) := by decide +kernel
theorem dX2_init_47 : decode cX2_init 47 = .ok (.goto (-24), 3) := by decide +kernel
theorem dX2_init_50 : decode cX2_init 50 = .ok (.return_, 1) := by decide +kernel
theorem dX2_known_0 : decode cX2_known 0 = .ok (.aload_n 0, 1) := by decide +kernel
theorem dX2_known_1 : decode cX2_known 1 = .ok (.getfield 24, 3) := by decide +kernel
theorem dX2_known_4 : decode cX2_known 4 = .ok (.ireturn, 1) := by decide +kernel
theorem dX2_forget_0 : decode cX2_forget 0 = .ok (.aload_n 0, 1) := by decide +kernel
theorem dX2_forget_1 : decode cX2_forget 1 = .ok (.iconst 0, 1) := by decide +kernel
theorem dX2_forget_2 : decode cX2_forget 2 = .ok (.putfield 24, 3) := by decide +kernel
theorem dX2_forget_5 : decode cX2_forget 5 = .ok (.return_, 1) := by decide +kernel
theorem dX2_remember_0 : decode cX2_remember 0 = .ok (.aload_n 0, 1) := by decide +kernel
theorem dX2_remember_1 : decode cX2_remember 1 = .ok (.getfield 28, 3) := by decide +kernel
theorem dX2_remember_4 : decode cX2_remember 4 = .ok (.ifCond .lt 23, 3) := by decide +kernel
theorem dX2_remember_7 : decode cX2_remember 7 = .ok (.aload_n 0, 1) := by decide +kernel
theorem dX2_remember_8 : decode cX2_remember 8 = .ok (.getfield 28, 3) := by decide +kernel
theorem dX2_remember_11 : decode cX2_remember 11 = .ok (.iconst 1, 1) := by decide +kernel
theorem dX2_remember_12 : decode cX2_remember 12 = .ok (.iadd, 1) := by decide +kernel
theorem dX2_remember_13 : decode cX2_remember 13 = .ok (.bipush 10, 2) := by decide +kernel
theorem dX2_remember_15 : decode cX2_remember 15 = .ok (.if_icmp .ge 12, 3) := by decide +kernel
theorem dX2_remember_18 : decode cX2_remember 18 = .ok (.aload_n 0, 1) := by decide +kernel
theorem dX2_remember_19 : decode cX2_remember 19 = .ok (.getfield 28, 3) := by decide +kernel
theorem dX2_remember_22 : decode cX2_remember 22 = .ok (.iconst 1, 1) := by decide +kernel
theorem dX2_remember_23 : decode cX2_remember 23 = .ok (.iadd, 1) := by decide +kernel
theorem dX2_remember_24 : decode cX2_remember 24 = .ok (.goto 4, 3) := by decide +kernel
theorem dX2_remember_27 : decode cX2_remember 27 = .ok (.iconst 0, 1) := by decide +kernel
theorem dX2_remember_28 : decode cX2_remember 28 = .ok (.istore_n 3, 1) := by decide +kernel
theorem dX2_remember_29 : decode cX2_remember 29 = .ok (.aload_n 0, 1) := by decide +kernel
theorem dX2_remember_30 : decode cX2_remember 30 = .ok (.getfield 17, 3) := by decide +kernel
theorem dX2_remember_33 : decode cX2_remember 33 = .ok (.iload_n 3, 1) := by decide +kernel
theorem dX2_remember_34 : decode cX2_remember 34 = .ok (.iload_n 1, 1) := by decide +kernel
theorem dX2_remember_35 : decode cX2_remember 35 = .ok (.iastore, 1) := by decide +kernel
theorem dX2_remember_36 : decode cX2_remember 36 = .ok (.aload_n 0, 1) := by decide +kernel
theorem dX2_remember_37 : decode cX2_remember 37 = .ok (.getfield 11, 3) := by decide +kernel
theorem dX2_remember_40 : decode cX2_remember 40 = .ok (.iload_n 3, 1) := by decide +kernel
theorem dX2_remember_41 : decode cX2_remember 41 = .ok (.aaload, 1) := by decide +kernel
theorem dX2_remember_42 : decode cX2_remember 42 = .ok (.aload_n 2, 1) := by decide +kernel
theorem dX2_remember_43 : decode cX2_remember 43 = .ok (.invokevirtual 31, 3) := by decide +kernel
theorem dX2_remember_46 : decode cX2_remember 46 = .ok (.aload_n 0, 1) := by decide +kernel
theorem dX2_remember_47 : decode cX2_remember 47 = .ok (.iload_n 3, 1) := by decide +kernel
theorem dX2_remember_48 : decode cX2_remember 48 = .ok (.putfield 28, 3) := by decide +kernel
theorem dX2_remember_51 : decode cX2_remember 51 = .ok (.aload_n 0, 1) := by decide +kernel
theorem dX2_remember_52 : decode cX2_remember 52 = .ok (.aload_n 0, 1) := by decide +kernel
theorem dX2_remember_53 : decode cX2_remember 53 = .ok (.getfield 24, 3) := by decide +kernel
theorem dX2_remember_56 : decode cX2_remember 56 = .ok (.iconst 1, 1) := by decide +kernel
theorem dX2_remember_57 : decode cX2_remember 57 = .ok (.iadd, 1) := by decide +kernel
theorem dX2_remember_58 : decode cX2_remember 58 = .ok (.bipush 10, 2) := by decide +kernel
theorem dX2_remember_60 : decode cX2_remember 60 = .ok (.invokestatic 35, 3) := by decide +kernel
theorem dX2_remember_63 : decode cX2_remember 63 = .ok (.putfield 24, 3) := by decide +kernel
theorem dX2_remember_66 : decode cX2_remember 66 = .ok (.return_, 1) := by decide +kernel
theorem dX2_latestText_0 : decode cX2_latestText 0 = .ok (.aload_n 0, 1) := by decide +kernel
theorem dX2_latestText_1 : decode cX2_latestText 1 = .ok (.getfield 24, 3) := by decide +kernel
theorem dX2_latestText_4 : decode cX2_latestText 4 = .ok (.ifCond .le 31, 3) := by decide +kernel
theorem dX2_latestText_7 : decode cX2_latestText 7 = .ok (.aload_n 0, 1) := by decide +kernel
theorem dX2_latestText_8 : decode cX2_latestText 8 = .ok (.getfield 28, 3) := by decide +kernel
theorem dX2_latestText_11 : decode cX2_latestText 11 = .ok (.ifCond .lt 24, 3) := by decide +kernel
theorem dX2_latestText_14 : decode cX2_latestText 14 = .ok (.aload_n 0, 1) := by decide +kernel
theorem dX2_latestText_15 : decode cX2_latestText 15 = .ok (.getfield 28, 3) := by decide +kernel
theorem dX2_latestText_18 : decode cX2_latestText 18 = .ok (.bipush 10, 2) := by decide +kernel
theorem dX2_latestText_20 : decode cX2_latestText 20 = .ok (.if_icmp .ge 15, 3) := by decide +kernel
theorem dX2_latestText_23 : decode cX2_latestText 23 = .ok (.aload_n 0, 1) := by decide +kernel
theorem dX2_latestText_24 : decode cX2_latestText 24 = .ok (.getfield 17, 3) := by decide +kernel
theorem dX2_latestText_27 : decode cX2_latestText 27 = .ok (.aload_n 0, 1) := by decide +kernel
theorem dX2_latestText_28 : decode cX2_latestText 28 = .ok (.getfield 28, 3) := by decide +kernel
theorem dX2_latestText_31 : decode cX2_latestText 31 = .ok (.iaload, 1) := by decide +kernel
theorem dX2_latestText_32 : decode cX2_latestText 32 = .ok (.goto 5, 3) := by decide +kernel
theorem dX2_latestText_35 : decode cX2_latestText 35 = .ok (.bipush (-9), 2) := by decide +kernel
theorem dX2_latestText_37 : decode cX2_latestText 37 = .ok (.ireturn, 1) := by decide +kernel
theorem dX2_giveBack_0 : decode cX2_giveBack 0 = .ok (.aload_n 0, 1) := by decide +kernel
theorem dX2_giveBack_1 : decode cX2_giveBack 1 = .ok (.getfield 24, 3) := by decide +kernel
theorem dX2_giveBack_4 : decode cX2_giveBack 4 = .ok (.ifCond .le 19, 3) := by decide +kernel
theorem dX2_giveBack_7 : decode cX2_giveBack 7 = .ok (.aload_n 0, 1) := by decide +kernel
theorem dX2_giveBack_8 : decode cX2_giveBack 8 = .ok (.getfield 28, 3) := by decide +kernel
theorem dX2_giveBack_11 : decode cX2_giveBack 11 = .ok (.ifCond .lt 12, 3) := by decide +kernel
theorem dX2_giveBack_14 : decode cX2_giveBack 14 = .ok (.aload_n 0, 1) := by decide +kernel
theorem dX2_giveBack_15 : decode cX2_giveBack 15 = .ok (.getfield 28, 3) := by decide +kernel
theorem dX2_giveBack_18 : decode cX2_giveBack 18 = .ok (.bipush 10, 2) := by decide +kernel
theorem dX2_giveBack_20 : decode cX2_giveBack 20 = .ok (.if_icmp .lt 4, 3) := by decide +kernel
theorem dX2_giveBack_23 : decode cX2_giveBack 23 = .ok (.return_, 1) := by decide +kernel
theorem dX2_giveBack_24 : decode cX2_giveBack 24 = .ok (.aload_n 1, 1) := by decide +kernel
theorem dX2_giveBack_25 : decode cX2_giveBack 25 = .ok (.aload_n 0, 1) := by decide +kernel
theorem dX2_giveBack_26 : decode cX2_giveBack 26 = .ok (.getfield 11, 3) := by decide +kernel
theorem dX2_giveBack_29 : decode cX2_giveBack 29 = .ok (.aload_n 0, 1) := by decide +kernel
theorem dX2_giveBack_30 : decode cX2_giveBack 30 = .ok (.getfield 28, 3) := by decide +kernel
theorem dX2_giveBack_33 : decode cX2_giveBack 33 = .ok (.aaload, 1) := by decide +kernel
theorem dX2_giveBack_34 : decode cX2_giveBack 34 = .ok (.invokevirtual 31, 3) := by decide +kernel
theorem dX2_giveBack_37 : decode cX2_giveBack 37 = .ok (.aload_n 0, 1) := by decide +kernel
theorem dX2_giveBack_38 : decode cX2_giveBack 38 = .ok (.aload_n 0, 1) := by decide +kernel
theorem dX2_giveBack_39 : decode cX2_giveBack 39 = .ok (.getfield 28, 3) := by decide +kernel
theorem dX2_giveBack_42 : decode cX2_giveBack 42 = .ok (.ifCond .le 12, 3) := by decide +kernel
theorem dX2_giveBack_45 : decode cX2_giveBack 45 = .ok (.aload_n 0, 1) := by decide +kernel
theorem dX2_giveBack_46 : decode cX2_giveBack 46 = .ok (.getfield 28, 3) := by decide +kernel
theorem dX2_giveBack_49 : decode cX2_giveBack 49 = .ok (.iconst 1, 1) := by decide +kernel
theorem dX2_giveBack_50 : decode cX2_giveBack 50 = .ok (.isub, 1) := by decide +kernel
theorem dX2_giveBack_51 : decode cX2_giveBack 51 = .ok (.goto 5, 3) := by decide +kernel
theorem dX2_giveBack_54 : decode cX2_giveBack 54 = .ok (.bipush 9, 2) := by decide +kernel
theorem dX2_giveBack_56 : decode cX2_giveBack 56 = .ok (.putfield 28, 3) := by decide +kernel
theorem dX2_giveBack_59 : decode cX2_giveBack 59 = .ok (.aload_n 0, 1) := by decide +kernel
theorem dX2_giveBack_60 : decode cX2_giveBack 60 = .ok (.dup, 1) := by decide +kernel
theorem dX2_giveBack_61 : decode cX2_giveBack 61 = .ok (.getfield 24, 3) := by decide +kernel
theorem dX2_giveBack_64 : decode cX2_giveBack 64 = .ok (.iconst 1, 1) := by decide +kernel
theorem dX2_giveBack_65 : decode cX2_giveBack 65 = .ok (.isub, 1) := by decide +kernel
theorem dX2_giveBack_66 : decode cX2_giveBack 66 = .ok (.putfield 24, 3) := by decide +kernel
theorem dX2_giveBack_69 : decode cX2_giveBack 69 = .ok (.return_, 1) := by decide +kernel
theorem dX3_init_0 : decode cX3_init 0 = .ok (.aload_n 0, 1) := by decide +kernel
theorem dX3_init_1 : decode cX3_init 1 = .ok (.invokespecial 3, 3) := by decide +kernel
theorem dX3_init_4 : decode cX3_init 4 = .ok (.aload_n 0, 1) := by decide +kernel
theorem dX3_init_5 : decode cX3_init 5 = .ok (.iconst 2, 1) := by decide +kernel
theorem dX3_init_6 : decode cX3_init 6 = .ok (.anewarray 9, 3) := by decide +kernel
theorem dX3_init_9 : decode cX3_init 9 = .ok (.putfield 11, 3) := by decide +kernel
theorem dX3_init_12 : decode cX3_init 12 = .ok (.aload_n 0, 1) := by decide +kernel
theorem dX3_init_13 : decode cX3_init 13 = .ok (.iconst 2, 1) := by decide +kernel
theorem dX3_init_14 : decode cX3_init 14 = .ok (.newarray .boolean, 2) := by decide +kernel
theorem dX3_init_16 : decode cX3_init 16 = .ok (.putfield 17, 3) := by decide +kernel
theorem dX3_init_19 : decode cX3_init 19 = .ok (.iconst 0, 1) := by decide +kernel
theorem dX3_init_20 : decode cX3_init 20 = .ok (.istore_n 1, 1) := by decide +kernel
theorem dX3_init_21 : decode cX3_init 21 = .ok (.iload_n 1, 1) := by decide +kernel
theorem dX3_init_22 : decode cX3_init 22 = .ok (.iconst 2, 1) := by decide +kernel
theorem dX3_init_23 : decode cX3_init 23 = .ok (.if_icmp .ge 22, 3) := by decide +kernel
theorem dX3_init_26 : decode cX3_init 26 = .ok (.aload_n 0, 1) := by decide +kernel
theorem dX3_init_27 : decode cX3_init 27 = .ok (.getfield 11, 3) := by decide +kernel
theorem dX3_init_30 : decode cX3_init 30 = .ok (.iload_n 1, 1) := by decide +kernel
theorem dX3_init_31 : decode cX3_init 31 = .ok (.new 9, 3) := by decide +kernel
theorem dX3_init_34 : decode cX3_init 34 = .ok (.dup, 1) := by decide +kernel
theorem dX3_init_35 : decode cX3_init 35 = .ok (.invokespecial 21, 3) := by decide +kernel
theorem dX3_init_38 : decode cX3_init 38 = .ok (.aastore, 1) := by decide +kernel
theorem dX3_init_39 : decode cX3_init 39 = .ok (.iinc 1 1, 3) := by decide +kernel
theorem dX3_init_42 : decode cX3_init 42 = .ok (.goto (-21), 3) := by decide +kernel
theorem dX3_init_45 : decode cX3_init 45 = .ok (.return_, 1) := by decide +kernel
theorem dX3_image_0 : decode cX3_image 0 = .ok (.iload_n 1, 1) := by decide +kernel
theorem dX3_image_1 : decode cX3_image 1 = .ok (.ifCond .lt 17, 3) := by decide +kernel
theorem dX3_image_4 : decode cX3_image 4 = .ok (.iload_n 1, 1) := by decide +kernel
theorem dX3_image_5 : decode cX3_image 5 = .ok (.iconst 2, 1) := by decide +kernel
theorem dX3_image_6 : decode cX3_image 6 = .ok (.if_icmp .ge 12, 3) := by decide +kernel
theorem dX3_image_9 : decode cX3_image 9 = .ok (.aload_n 0, 1) := by decide +kernel
theorem dX3_image_10 : decode cX3_image 10 = .ok (.getfield 11, 3) := by decide +kernel
theorem dX3_image_13 : decode cX3_image 13 = .ok (.iload_n 1, 1) := by decide +kernel
theorem dX3_image_14 : decode cX3_image 14 = .ok (.aaload, 1) := by decide +kernel
theorem dX3_image_15 : decode cX3_image 15 = .ok (.goto 4, 3) := by decide +kernel
theorem dX3_image_18 : decode cX3_image 18 = .ok (.aconst_null, 1) := by decide +kernel
theorem dX3_image_19 : decode cX3_image 19 = .ok (.areturn, 1) := by decide +kernel
theorem dX3_isKept_0 : decode cX3_isKept 0 = .ok (.iload_n 1, 1) := by decide +kernel
theorem dX3_isKept_1 : decode cX3_isKept 1 = .ok (.ifCond .lt 21, 3) := by decide +kernel
theorem dX3_isKept_4 : decode cX3_isKept 4 = .ok (.iload_n 1, 1) := by decide +kernel
theorem dX3_isKept_5 : decode cX3_isKept 5 = .ok (.iconst 2, 1) := by decide +kernel
theorem dX3_isKept_6 : decode cX3_isKept 6 = .ok (.if_icmp .ge 16, 3) := by decide +kernel
theorem dX3_isKept_9 : decode cX3_isKept 9 = .ok (.aload_n 0, 1) := by decide +kernel
theorem dX3_isKept_10 : decode cX3_isKept 10 = .ok (.getfield 17, 3) := by decide +kernel
theorem dX3_isKept_13 : decode cX3_isKept 13 = .ok (.iload_n 1, 1) := by decide +kernel
theorem dX3_isKept_14 : decode cX3_isKept 14 = .ok (.baload, 1) := by decide +kernel
theorem dX3_isKept_15 : decode cX3_isKept 15 = .ok (.ifCond .eq 7, 3) := by decide +kernel
theorem dX3_isKept_18 : decode cX3_isKept 18 = .ok (.iconst 1, 1) := by decide +kernel
theorem dX3_isKept_19 : decode cX3_isKept 19 = .ok (.goto 4, 3) := by decide +kernel
theorem dX3_isKept_22 : decode cX3_isKept 22 = .ok (.iconst 0, 1) := by decide +kernel
theorem dX3_isKept_23 : decode cX3_isKept 23 = .ok (.ireturn, 1) := by decide +kernel
theorem dX3_take_0 : decode cX3_take 0 = .ok (.iload_n 1, 1) := by decide +kernel
theorem dX3_take_1 : decode cX3_take 1 = .ok (.ifCond .lt 8, 3) := by decide +kernel
theorem dX3_take_4 : decode cX3_take 4 = .ok (.iload_n 1, 1) := by decide +kernel
theorem dX3_take_5 : decode cX3_take 5 = .ok (.iconst 2, 1) := by decide +kernel
theorem dX3_take_6 : decode cX3_take 6 = .ok (.if_icmp .lt 5, 3) := by decide +kernel
theorem dX3_take_9 : decode cX3_take 9 = .ok (.iconst 0, 1) := by decide +kernel
theorem dX3_take_10 : decode cX3_take 10 = .ok (.ireturn, 1) := by decide +kernel
theorem dX3_take_11 : decode cX3_take 11 = .ok (.aload_n 0, 1) := by decide +kernel
theorem dX3_take_12 : decode cX3_take 12 = .ok (.getfield 11, 3) := by decide +kernel
theorem dX3_take_15 : decode cX3_take 15 = .ok (.iload_n 1, 1) := by decide +kernel
theorem dX3_take_16 : decode cX3_take 16 = .ok (.aaload, 1) := by decide +kernel
theorem dX3_take_17 : decode cX3_take 17 = .ok (.aload_n 2, 1) := by decide +kernel
theorem dX3_take_18 : decode cX3_take 18 = .ok (.invokevirtual 22, 3) := by decide +kernel
theorem dX3_take_21 : decode cX3_take 21 = .ok (.aload_n 0, 1) := by decide +kernel
theorem dX3_take_22 : decode cX3_take 22 = .ok (.getfield 17, 3) := by decide +kernel
theorem dX3_take_25 : decode cX3_take 25 = .ok (.iload_n 1, 1) := by decide +kernel
theorem dX3_take_26 : decode cX3_take 26 = .ok (.iconst 1, 1) := by decide +kernel
theorem dX3_take_27 : decode cX3_take 27 = .ok (.bastore, 1) := by decide +kernel
theorem dX3_take_28 : decode cX3_take 28 = .ok (.iconst 1, 1) := by decide +kernel
theorem dX3_take_29 : decode cX3_take 29 = .ok (.ireturn, 1) := by decide +kernel
theorem dX3_drop_0 : decode cX3_drop 0 = .ok (.iconst 0, 1) := by decide +kernel
theorem dX3_drop_1 : decode cX3_drop 1 = .ok (.istore_n 1, 1) := by decide +kernel
theorem dX3_drop_2 : decode cX3_drop 2 = .ok (.iload_n 1, 1) := by decide +kernel
theorem dX3_drop_3 : decode cX3_drop 3 = .ok (.iconst 2, 1) := by decide +kernel
theorem dX3_drop_4 : decode cX3_drop 4 = .ok (.if_icmp .ge 16, 3) := by decide +kernel
theorem dX3_drop_7 : decode cX3_drop 7 = .ok (.aload_n 0, 1) := by decide +kernel
theorem dX3_drop_8 : decode cX3_drop 8 = .ok (.getfield 17, 3) := by decide +kernel
theorem dX3_drop_11 : decode cX3_drop 11 = .ok (.iload_n 1, 1) := by decide +kernel
theorem dX3_drop_12 : decode cX3_drop 12 = .ok (.iconst 0, 1) := by decide +kernel
theorem dX3_drop_13 : decode cX3_drop 13 = .ok (.bastore, 1) := by decide +kernel
theorem dX3_drop_14 : decode cX3_drop 14 = .ok (.iinc 1 1, 3) := by decide +kernel
theorem dX3_drop_17 : decode cX3_drop 17 = .ok (.goto (-15), 3) := by decide +kernel
theorem dX3_drop_20 : decode cX3_drop 20 = .ok (.return_, 1) := by decide +kernel
theorem dX4_init_0 : decode cX4_init 0 = .ok (.aload_n 0, 1) := by decide +kernel
theorem dX4_init_1 : decode cX4_init 1 = .ok (.invokespecial 3, 3) := by decide +kernel
theorem dX4_init_4 : decode cX4_init 4 = .ok (.aload_n 0, 1) := by decide +kernel
theorem dX4_init_5 : decode cX4_init 5 = .ok (.new 9, 3) := by decide +kernel
theorem dX4_init_8 : decode cX4_init 8 = .ok (.dup, 1) := by decide +kernel
theorem dX4_init_9 : decode cX4_init 9 = .ok (.sipush 150, 3) := by decide +kernel
theorem dX4_init_12 : decode cX4_init 12 = .ok (.invokespecial 11, 3) := by decide +kernel
theorem dX4_init_15 : decode cX4_init 15 = .ok (.putfield 14, 3) := by decide +kernel
theorem dX4_init_18 : decode cX4_init 18 = .ok (.return_, 1) := by decide +kernel
theorem dX4_typed_0 : decode cX4_typed 0 = .ok (.aload_n 0, 1) := by decide +kernel
theorem dX4_typed_1 : decode cX4_typed 1 = .ok (.getfield 14, 3) := by decide +kernel
theorem dX4_typed_4 : decode cX4_typed 4 = .ok (.areturn, 1) := by decide +kernel
theorem dX4_readInto_0 : decode cX4_readInto 0 = .ok (.aload_n 1, 1) := by decide +kernel
theorem dX4_readInto_1 : decode cX4_readInto 1 = .ok (.invokevirtual 20, 3) := by decide +kernel
theorem dX4_readInto_4 : decode cX4_readInto 4 = .ok (.aload_n 0, 1) := by decide +kernel
theorem dX4_readInto_5 : decode cX4_readInto 5 = .ok (.iconst 0, 1) := by decide +kernel
theorem dX4_readInto_6 : decode cX4_readInto 6 = .ok (.putfield 25, 3) := by decide +kernel
theorem dX4_readInto_9 : decode cX4_readInto 9 = .ok (.iconst 0, 1) := by decide +kernel
theorem dX4_readInto_10 : decode cX4_readInto 10 = .ok (.istore_n 2, 1) := by decide +kernel
theorem dX4_readInto_11 : decode cX4_readInto 11 = .ok (.iload_n 2, 1) := by decide +kernel
theorem dX4_readInto_12 : decode cX4_readInto 12 = .ok (.bipush 24, 2) := by decide +kernel
theorem dX4_readInto_14 : decode cX4_readInto 14 = .ok (.if_icmp .gt 55, 3) := by decide +kernel
theorem dX4_readInto_17 : decode cX4_readInto 17 = .ok (.aload_n 0, 1) := by decide +kernel
theorem dX4_readInto_18 : decode cX4_readInto 18 = .ok (.invokevirtual 29, 3) := by decide +kernel
theorem dX4_readInto_21 : decode cX4_readInto 21 = .ok (.aload_n 0, 1) := by decide +kernel
theorem dX4_readInto_22 : decode cX4_readInto 22 = .ok (.getfield 32, 3) := by decide +kernel
theorem dX4_readInto_25 : decode cX4_readInto 25 = .ok (.ifCond .ne 5, 3) := by decide +kernel
theorem dX4_readInto_28 : decode cX4_readInto 28 = .ok (.iconst (-1), 1) := by decide +kernel
theorem dX4_readInto_29 : decode cX4_readInto 29 = .ok (.ireturn, 1) := by decide +kernel
theorem dX4_readInto_30 : decode cX4_readInto 30 = .ok (.aload_n 0, 1) := by decide +kernel
theorem dX4_readInto_31 : decode cX4_readInto 31 = .ok (.aload_n 1, 1) := by decide +kernel
theorem dX4_readInto_32 : decode cX4_readInto 32 = .ok (.invokevirtual 35, 3) := by decide +kernel
theorem dX4_readInto_35 : decode cX4_readInto 35 = .ok (.ifCond .ne 8, 3) := by decide +kernel
theorem dX4_readInto_38 : decode cX4_readInto 38 = .ok (.aload_n 0, 1) := by decide +kernel
theorem dX4_readInto_39 : decode cX4_readInto 39 = .ok (.getfield 39, 3) := by decide +kernel
theorem dX4_readInto_42 : decode cX4_readInto 42 = .ok (.ireturn, 1) := by decide +kernel
theorem dX4_readInto_43 : decode cX4_readInto 43 = .ok (.aload_n 1, 1) := by decide +kernel
theorem dX4_readInto_44 : decode cX4_readInto 44 = .ok (.aload_n 0, 1) := by decide +kernel
theorem dX4_readInto_45 : decode cX4_readInto 45 = .ok (.getfield 42, 3) := by decide +kernel
theorem dX4_readInto_48 : decode cX4_readInto 48 = .ok (.aload_n 0, 1) := by decide +kernel
theorem dX4_readInto_49 : decode cX4_readInto 49 = .ok (.getfield 45, 3) := by decide +kernel
theorem dX4_readInto_52 : decode cX4_readInto 52 = .ok (.aload_n 0, 1) := by decide +kernel
theorem dX4_readInto_53 : decode cX4_readInto 53 = .ok (.getfield 48, 3) := by decide +kernel
theorem dX4_readInto_56 : decode cX4_readInto 56 = .ok (.aload_n 0, 1) := by decide +kernel
theorem dX4_readInto_57 : decode cX4_readInto 57 = .ok (.getfield 51, 3) := by decide +kernel
theorem dX4_readInto_60 : decode cX4_readInto 60 = .ok (.invokevirtual 54, 3) := by decide +kernel
theorem dX4_readInto_63 : decode cX4_readInto 63 = .ok (.iinc 2 1, 3) := by decide +kernel
theorem dX4_readInto_66 : decode cX4_readInto 66 = .ok (.goto (-55), 3) := by decide +kernel
theorem dX4_readInto_69 : decode cX4_readInto 69 = .ok (.aload_n 0, 1) := by decide +kernel
theorem dX4_readInto_70 : decode cX4_readInto 70 = .ok (.getfield 39, 3) := by decide +kernel
theorem dX4_readInto_73 : decode cX4_readInto 73 = .ok (.ireturn, 1) := by decide +kernel
theorem dX4_readCode_0 : decode cX4_readCode 0 = .ok (.aload_n 0, 1) := by decide +kernel
theorem dX4_readCode_1 : decode cX4_readCode 1 = .ok (.getfield 32, 3) := by decide +kernel
theorem dX4_readCode_4 : decode cX4_readCode 4 = .ok (.iconst 1, 1) := by decide +kernel
theorem dX4_readCode_5 : decode cX4_readCode 5 = .ok (.if_icmp .ne 10, 3) := by decide +kernel
theorem dX4_readCode_8 : decode cX4_readCode 8 = .ok (.aload_n 1, 1) := by decide +kernel
theorem dX4_readCode_9 : decode cX4_readCode 9 = .ok (.invokevirtual 58, 3) := by decide +kernel
theorem dX4_readCode_12 : decode cX4_readCode 12 = .ok (.ifCond .eq 5, 3) := by decide +kernel
theorem dX4_readCode_15 : decode cX4_readCode 15 = .ok (.iconst 0, 1) := by decide +kernel
theorem dX4_readCode_16 : decode cX4_readCode 16 = .ok (.ireturn, 1) := by decide +kernel
theorem dX4_readCode_17 : decode cX4_readCode 17 = .ok (.aload_n 0, 1) := by decide +kernel
theorem dX4_readCode_18 : decode cX4_readCode 18 = .ok (.getfield 62, 3) := by decide +kernel
theorem dX4_readCode_21 : decode cX4_readCode 21 = .ok (.lookupswitch 95 #[(99, 43), (112, 51), (115, 86), (120, 76)], 43) := by decide +kernel
theorem dX4_readCode_64 : decode cX4_readCode 64 = .ok (.aload_n 0, 1) := by decide +kernel
theorem dX4_readCode_65 : decode cX4_readCode 65 = .ok (.invokevirtual 65, 3) := by decide +kernel
theorem dX4_readCode_68 : decode cX4_readCode 68 = .ok (.istore_n 2, 1) := by decide +kernel
theorem dX4_readCode_69 : decode cX4_readCode 69 = .ok (.goto 49, 3) := by decide +kernel
theorem dX4_readCode_72 : decode cX4_readCode 72 = .ok (.aload_n 1, 1) := by decide +kernel
theorem dX4_readCode_73 : decode cX4_readCode 73 = .ok (.invokevirtual 68, 3) := by decide +kernel
theorem dX4_readCode_76 : decode cX4_readCode 76 = .ok (.ifCond .eq 16, 3) := by decide +kernel
theorem dX4_readCode_79 : decode cX4_readCode 79 = .ok (.aload_n 0, 1) := by decide +kernel
theorem dX4_readCode_80 : decode cX4_readCode 80 = .ok (.aload_n 1, 1) := by decide +kernel
theorem dX4_readCode_81 : decode cX4_readCode 81 = .ok (.iconst 1, 1) := by decide +kernel
theorem dX4_readCode_82 : decode cX4_readCode 82 = .ok (.invokevirtual 71, 3) := by decide +kernel
theorem dX4_readCode_85 : decode cX4_readCode 85 = .ok (.ifCond .eq 7, 3) := by decide +kernel
theorem dX4_readCode_88 : decode cX4_readCode 88 = .ok (.iconst 1, 1) := by decide +kernel
theorem dX4_readCode_89 : decode cX4_readCode 89 = .ok (.goto 4, 3) := by decide +kernel
theorem dX4_readCode_92 : decode cX4_readCode 92 = .ok (.iconst 0, 1) := by decide +kernel
theorem dX4_readCode_93 : decode cX4_readCode 93 = .ok (.istore_n 2, 1) := by decide +kernel
theorem dX4_readCode_94 : decode cX4_readCode 94 = .ok (.goto 24, 3) := by decide +kernel
theorem dX4_readCode_97 : decode cX4_readCode 97 = .ok (.aload_n 0, 1) := by decide +kernel
theorem dX4_readCode_98 : decode cX4_readCode 98 = .ok (.aload_n 1, 1) := by decide +kernel
theorem dX4_readCode_99 : decode cX4_readCode 99 = .ok (.iconst 2, 1) := by decide +kernel
theorem dX4_readCode_100 : decode cX4_readCode 100 = .ok (.invokevirtual 71, 3) := by decide +kernel
theorem dX4_readCode_103 : decode cX4_readCode 103 = .ok (.istore_n 2, 1) := by decide +kernel
theorem dX4_readCode_104 : decode cX4_readCode 104 = .ok (.goto 14, 3) := by decide +kernel
theorem dX4_readCode_107 : decode cX4_readCode 107 = .ok (.aload_n 0, 1) := by decide +kernel
theorem dX4_readCode_108 : decode cX4_readCode 108 = .ok (.aload_n 1, 1) := by decide +kernel
theorem dX4_readCode_109 : decode cX4_readCode 109 = .ok (.invokevirtual 75, 3) := by decide +kernel
theorem dX4_readCode_112 : decode cX4_readCode 112 = .ok (.istore_n 2, 1) := by decide +kernel
theorem dX4_readCode_113 : decode cX4_readCode 113 = .ok (.goto 5, 3) := by decide +kernel
theorem dX4_readCode_116 : decode cX4_readCode 116 = .ok (.iconst 0, 1) := by decide +kernel
theorem dX4_readCode_117 : decode cX4_readCode 117 = .ok (.istore_n 2, 1) := by decide +kernel
theorem dX4_readCode_118 : decode cX4_readCode 118 = .ok (.iload_n 2, 1) := by decide +kernel
theorem dX4_readCode_119 : decode cX4_readCode 119 = .ok (.ifCond .ne 5, 3) := by decide +kernel
theorem dX4_readCode_122 : decode cX4_readCode 122 = .ok (.iconst 0, 1) := by decide +kernel
theorem dX4_readCode_123 : decode cX4_readCode 123 = .ok (.ireturn, 1) := by decide +kernel
theorem dX4_readCode_124 : decode cX4_readCode 124 = .ok (.aload_n 0, 1) := by decide +kernel
theorem dX4_readCode_125 : decode cX4_readCode 125 = .ok (.invokevirtual 29, 3) := by decide +kernel
theorem dX4_readCode_128 : decode cX4_readCode 128 = .ok (.aload_n 0, 1) := by decide +kernel
theorem dX4_readCode_129 : decode cX4_readCode 129 = .ok (.getfield 32, 3) := by decide +kernel
theorem dX4_readCode_132 : decode cX4_readCode 132 = .ok (.iconst 3, 1) := by decide +kernel
theorem dX4_readCode_133 : decode cX4_readCode 133 = .ok (.if_icmp .ne 7, 3) := by decide +kernel
theorem dX4_readCode_136 : decode cX4_readCode 136 = .ok (.iconst 1, 1) := by decide +kernel
theorem dX4_readCode_137 : decode cX4_readCode 137 = .ok (.goto 4, 3) := by decide +kernel
theorem dX4_readCode_140 : decode cX4_readCode 140 = .ok (.iconst 0, 1) := by decide +kernel
theorem dX4_readCode_141 : decode cX4_readCode 141 = .ok (.ireturn, 1) := by decide +kernel
theorem dX4_readPlain_0 : decode cX4_readPlain 0 = .ok (.aload_n 0, 1) := by decide +kernel
theorem dX4_readPlain_1 : decode cX4_readPlain 1 = .ok (.invokevirtual 29, 3) := by decide +kernel
theorem dX4_readPlain_4 : decode cX4_readPlain 4 = .ok (.aload_n 0, 1) := by decide +kernel
theorem dX4_readPlain_5 : decode cX4_readPlain 5 = .ok (.iconst 0, 1) := by decide +kernel
theorem dX4_readPlain_6 : decode cX4_readPlain 6 = .ok (.putfield 42, 3) := by decide +kernel
theorem dX4_readPlain_9 : decode cX4_readPlain 9 = .ok (.aload_n 0, 1) := by decide +kernel
theorem dX4_readPlain_10 : decode cX4_readPlain 10 = .ok (.aload_n 0, 1) := by decide +kernel
theorem dX4_readPlain_11 : decode cX4_readPlain 11 = .ok (.getfield 62, 3) := by decide +kernel
theorem dX4_readPlain_14 : decode cX4_readPlain 14 = .ok (.putfield 45, 3) := by decide +kernel
theorem dX4_readPlain_17 : decode cX4_readPlain 17 = .ok (.aload_n 0, 1) := by decide +kernel
theorem dX4_readPlain_18 : decode cX4_readPlain 18 = .ok (.bipush (-9), 2) := by decide +kernel
theorem dX4_readPlain_20 : decode cX4_readPlain 20 = .ok (.putfield 48, 3) := by decide +kernel
theorem dX4_readPlain_23 : decode cX4_readPlain 23 = .ok (.aload_n 0, 1) := by decide +kernel
theorem dX4_readPlain_24 : decode cX4_readPlain 24 = .ok (.bipush (-9), 2) := by decide +kernel
theorem dX4_readPlain_26 : decode cX4_readPlain 26 = .ok (.putfield 51, 3) := by decide +kernel
theorem dX4_readPlain_29 : decode cX4_readPlain 29 = .ok (.aload_n 0, 1) := by decide +kernel
theorem dX4_readPlain_30 : decode cX4_readPlain 30 = .ok (.getfield 32, 3) := by decide +kernel
theorem dX4_readPlain_33 : decode cX4_readPlain 33 = .ok (.iconst 2, 1) := by decide +kernel
theorem dX4_readPlain_34 : decode cX4_readPlain 34 = .ok (.if_icmp .ne 16, 3) := by decide +kernel
theorem dX4_readPlain_37 : decode cX4_readPlain 37 = .ok (.aload_n 0, 1) := by decide +kernel
theorem dX4_readPlain_38 : decode cX4_readPlain 38 = .ok (.getfield 62, 3) := by decide +kernel
theorem dX4_readPlain_41 : decode cX4_readPlain 41 = .ok (.bipush 9, 2) := by decide +kernel
theorem dX4_readPlain_43 : decode cX4_readPlain 43 = .ok (.if_icmp .gt 7, 3) := by decide +kernel
theorem dX4_readPlain_46 : decode cX4_readPlain 46 = .ok (.iconst 1, 1) := by decide +kernel
theorem dX4_readPlain_47 : decode cX4_readPlain 47 = .ok (.goto 4, 3) := by decide +kernel
theorem dX4_readPlain_50 : decode cX4_readPlain 50 = .ok (.iconst 0, 1) := by decide +kernel
theorem dX4_readPlain_51 : decode cX4_readPlain 51 = .ok (.ireturn, 1) := by decide +kernel
theorem dX4_readSingle_0 : decode cX4_readSingle 0 = .ok (.aload_n 0, 1) := by decide +kernel
theorem dX4_readSingle_1 : decode cX4_readSingle 1 = .ok (.invokevirtual 29, 3) := by decide +kernel
theorem dX4_readSingle_4 : decode cX4_readSingle 4 = .ok (.aload_n 0, 1) := by decide +kernel
theorem dX4_readSingle_5 : decode cX4_readSingle 5 = .ok (.iconst 3, 1) := by decide +kernel
theorem dX4_readSingle_6 : decode cX4_readSingle 6 = .ok (.putfield 42, 3) := by decide +kernel
theorem dX4_readSingle_9 : decode cX4_readSingle 9 = .ok (.aload_n 0, 1) := by decide +kernel
theorem dX4_readSingle_10 : decode cX4_readSingle 10 = .ok (.aload_n 1, 1) := by decide +kernel
theorem dX4_readSingle_11 : decode cX4_readSingle 11 = .ok (.aload_n 0, 1) := by decide +kernel
theorem dX4_readSingle_12 : decode cX4_readSingle 12 = .ok (.getfield 62, 3) := by decide +kernel
theorem dX4_readSingle_15 : decode cX4_readSingle 15 = .ok (.invokevirtual 78, 3) := by decide +kernel
theorem dX4_readSingle_18 : decode cX4_readSingle 18 = .ok (.putfield 45, 3) := by decide +kernel
theorem dX4_readSingle_21 : decode cX4_readSingle 21 = .ok (.aload_n 0, 1) := by decide +kernel
theorem dX4_readSingle_22 : decode cX4_readSingle 22 = .ok (.aload_n 0, 1) := by decide +kernel
theorem dX4_readSingle_23 : decode cX4_readSingle 23 = .ok (.getfield 62, 3) := by decide +kernel
theorem dX4_readSingle_26 : decode cX4_readSingle 26 = .ok (.putfield 48, 3) := by decide +kernel
theorem dX4_readSingle_29 : decode cX4_readSingle 29 = .ok (.aload_n 0, 1) := by decide +kernel
theorem dX4_readSingle_30 : decode cX4_readSingle 30 = .ok (.bipush (-9), 2) := by decide +kernel
theorem dX4_readSingle_32 : decode cX4_readSingle 32 = .ok (.putfield 51, 3) := by decide +kernel
theorem dX4_readSingle_35 : decode cX4_readSingle 35 = .ok (.aload_n 0, 1) := by decide +kernel
theorem dX4_readSingle_36 : decode cX4_readSingle 36 = .ok (.getfield 32, 3) := by decide +kernel
theorem dX4_readSingle_39 : decode cX4_readSingle 39 = .ok (.iconst 2, 1) := by decide +kernel
theorem dX4_readSingle_40 : decode cX4_readSingle 40 = .ok (.if_icmp .ne 18, 3) := by decide +kernel
theorem dX4_readSingle_43 : decode cX4_readSingle 43 = .ok (.aload_n 1, 1) := by decide +kernel
theorem dX4_readSingle_44 : decode cX4_readSingle 44 = .ok (.aload_n 0, 1) := by decide +kernel
theorem dX4_readSingle_45 : decode cX4_readSingle 45 = .ok (.getfield 62, 3) := by decide +kernel
theorem dX4_readSingle_48 : decode cX4_readSingle 48 = .ok (.invokevirtual 82, 3) := by decide +kernel
theorem dX4_readSingle_51 : decode cX4_readSingle 51 = .ok (.ifCond .eq 7, 3) := by decide +kernel
theorem dX4_readSingle_54 : decode cX4_readSingle 54 = .ok (.iconst 1, 1) := by decide +kernel
theorem dX4_readSingle_55 : decode cX4_readSingle 55 = .ok (.goto 4, 3) := by decide +kernel
theorem dX4_readSingle_58 : decode cX4_readSingle 58 = .ok (.iconst 0, 1) := by decide +kernel
theorem dX4_readSingle_59 : decode cX4_readSingle 59 = .ok (.ireturn, 1) := by decide +kernel
theorem dX4_readTwo_0 : decode cX4_readTwo 0 = .ok (.aload_n 0, 1) := by decide +kernel
theorem dX4_readTwo_1 : decode cX4_readTwo 1 = .ok (.invokevirtual 29, 3) := by decide +kernel
theorem dX4_readTwo_4 : decode cX4_readTwo 4 = .ok (.aload_n 0, 1) := by decide +kernel
theorem dX4_readTwo_5 : decode cX4_readTwo 5 = .ok (.getfield 32, 3) := by decide +kernel
theorem dX4_readTwo_8 : decode cX4_readTwo 8 = .ok (.iconst 2, 1) := by decide +kernel
theorem dX4_readTwo_9 : decode cX4_readTwo 9 = .ok (.if_icmp .ne 14, 3) := by decide +kernel
theorem dX4_readTwo_12 : decode cX4_readTwo 12 = .ok (.aload_n 1, 1) := by decide +kernel
theorem dX4_readTwo_13 : decode cX4_readTwo 13 = .ok (.aload_n 0, 1) := by decide +kernel
theorem dX4_readTwo_14 : decode cX4_readTwo 14 = .ok (.getfield 62, 3) := by decide +kernel
theorem dX4_readTwo_17 : decode cX4_readTwo 17 = .ok (.invokevirtual 86, 3) := by decide +kernel
theorem dX4_readTwo_20 : decode cX4_readTwo 20 = .ok (.ifCond .ne 5, 3) := by decide +kernel
theorem dX4_readTwo_23 : decode cX4_readTwo 23 = .ok (.iconst 0, 1) := by decide +kernel
theorem dX4_readTwo_24 : decode cX4_readTwo 24 = .ok (.ireturn, 1) := by decide +kernel
theorem dX4_readTwo_25 : decode cX4_readTwo 25 = .ok (.aload_n 0, 1) := by decide +kernel
theorem dX4_readTwo_26 : decode cX4_readTwo 26 = .ok (.iload_n 2, 1) := by decide +kernel
theorem dX4_readTwo_27 : decode cX4_readTwo 27 = .ok (.putfield 42, 3) := by decide +kernel
theorem dX4_readTwo_30 : decode cX4_readTwo 30 = .ok (.aload_n 0, 1) := by decide +kernel
theorem dX4_readTwo_31 : decode cX4_readTwo 31 = .ok (.iconst 0, 1) := by decide +kernel
theorem dX4_readTwo_32 : decode cX4_readTwo 32 = .ok (.putfield 45, 3) := by decide +kernel
theorem dX4_readTwo_35 : decode cX4_readTwo 35 = .ok (.aload_n 0, 1) := by decide +kernel
theorem dX4_readTwo_36 : decode cX4_readTwo 36 = .ok (.aload_n 0, 1) := by decide +kernel
theorem dX4_readTwo_37 : decode cX4_readTwo 37 = .ok (.getfield 62, 3) := by decide +kernel
theorem dX4_readTwo_40 : decode cX4_readTwo 40 = .ok (.putfield 48, 3) := by decide +kernel
theorem dX4_readTwo_43 : decode cX4_readTwo 43 = .ok (.aload_n 0, 1) := by decide +kernel
theorem dX4_readTwo_44 : decode cX4_readTwo 44 = .ok (.invokevirtual 29, 3) := by decide +kernel
theorem dX4_readTwo_47 : decode cX4_readTwo 47 = .ok (.aload_n 0, 1) := by decide +kernel
theorem dX4_readTwo_48 : decode cX4_readTwo 48 = .ok (.aload_n 0, 1) := by decide +kernel
theorem dX4_readTwo_49 : decode cX4_readTwo 49 = .ok (.getfield 62, 3) := by decide +kernel
theorem dX4_readTwo_52 : decode cX4_readTwo 52 = .ok (.putfield 51, 3) := by decide +kernel
theorem dX4_readTwo_55 : decode cX4_readTwo 55 = .ok (.aload_n 0, 1) := by decide +kernel
theorem dX4_readTwo_56 : decode cX4_readTwo 56 = .ok (.getfield 32, 3) := by decide +kernel
theorem dX4_readTwo_59 : decode cX4_readTwo 59 = .ok (.iconst 2, 1) := by decide +kernel
theorem dX4_readTwo_60 : decode cX4_readTwo 60 = .ok (.if_icmp .ne 22, 3) := by decide +kernel
theorem dX4_readTwo_63 : decode cX4_readTwo 63 = .ok (.aload_n 1, 1) := by decide +kernel
theorem dX4_readTwo_64 : decode cX4_readTwo 64 = .ok (.aload_n 0, 1) := by decide +kernel
theorem dX4_readTwo_65 : decode cX4_readTwo 65 = .ok (.getfield 42, 3) := by decide +kernel
theorem dX4_readTwo_68 : decode cX4_readTwo 68 = .ok (.aload_n 0, 1) := by decide +kernel
theorem dX4_readTwo_69 : decode cX4_readTwo 69 = .ok (.getfield 48, 3) := by decide +kernel
theorem dX4_readTwo_72 : decode cX4_readTwo 72 = .ok (.aload_n 0, 1) := by decide +kernel
theorem dX4_readTwo_73 : decode cX4_readTwo 73 = .ok (.getfield 51, 3) := by decide +kernel
theorem dX4_readTwo_76 : decode cX4_readTwo 76 = .ok (.invokevirtual 89, 3) := by decide +kernel
theorem dX4_readTwo_79 : decode cX4_readTwo 79 = .ok (.ifCond .ne 5, 3) := by decide +kernel
theorem dX4_readTwo_82 : decode cX4_readTwo 82 = .ok (.iconst 0, 1) := by decide +kernel
theorem dX4_readTwo_83 : decode cX4_readTwo 83 = .ok (.ireturn, 1) := by decide +kernel
theorem dX4_readTwo_84 : decode cX4_readTwo 84 = .ok (.aload_n 0, 1) := by decide +kernel
theorem dX4_readTwo_85 : decode cX4_readTwo 85 = .ok (.getfield 42, 3) := by decide +kernel
theorem dX4_readTwo_88 : decode cX4_readTwo 88 = .ok (.iconst 1, 1) := by decide +kernel
theorem dX4_readTwo_89 : decode cX4_readTwo 89 = .ok (.if_icmp .ne 20, 3) := by decide +kernel
theorem dX4_readTwo_92 : decode cX4_readTwo 92 = .ok (.aload_n 1, 1) := by decide +kernel
theorem dX4_readTwo_93 : decode cX4_readTwo 93 = .ok (.aload_n 0, 1) := by decide +kernel
theorem dX4_readTwo_94 : decode cX4_readTwo 94 = .ok (.getfield 48, 3) := by decide +kernel
theorem dX4_readTwo_97 : decode cX4_readTwo 97 = .ok (.aload_n 0, 1) := by decide +kernel
theorem dX4_readTwo_98 : decode cX4_readTwo 98 = .ok (.getfield 51, 3) := by decide +kernel
theorem dX4_readTwo_101 : decode cX4_readTwo 101 = .ok (.invokevirtual 93, 3) := by decide +kernel
theorem dX4_readTwo_104 : decode cX4_readTwo 104 = .ok (.bipush (-9), 2) := by decide +kernel
theorem dX4_readTwo_106 : decode cX4_readTwo 106 = .ok (.if_icmp .ne 7, 3) := by decide +kernel
theorem dX4_readTwo_109 : decode cX4_readTwo 109 = .ok (.iconst 1, 1) := by decide +kernel
theorem dX4_readTwo_110 : decode cX4_readTwo 110 = .ok (.goto 4, 3) := by decide +kernel
theorem dX4_readTwo_113 : decode cX4_readTwo 113 = .ok (.iconst 0, 1) := by decide +kernel
theorem dX4_readTwo_114 : decode cX4_readTwo 114 = .ok (.ireturn, 1) := by decide +kernel
theorem dX4_step_0 : decode cX4_step 0 = .ok (.aload_n 0, 1) := by decide +kernel
theorem dX4_step_1 : decode cX4_step 1 = .ok (.getfield 25, 3) := by decide +kernel
theorem dX4_step_4 : decode cX4_step 4 = .ok (.aload_n 0, 1) := by decide +kernel
theorem dX4_step_5 : decode cX4_step 5 = .ok (.getfield 14, 3) := by decide +kernel
theorem dX4_step_8 : decode cX4_step 8 = .ok (.invokevirtual 97, 3) := by decide +kernel
theorem dX4_step_11 : decode cX4_step 11 = .ok (.if_icmp .ge 32, 3) := by decide +kernel
theorem dX4_step_14 : decode cX4_step 14 = .ok (.aload_n 0, 1) := by decide +kernel
theorem dX4_step_15 : decode cX4_step 15 = .ok (.getfield 14, 3) := by decide +kernel
theorem dX4_step_18 : decode cX4_step 18 = .ok (.aload_n 0, 1) := by decide +kernel
theorem dX4_step_19 : decode cX4_step 19 = .ok (.getfield 25, 3) := by decide +kernel
theorem dX4_step_22 : decode cX4_step 22 = .ok (.invokevirtual 101, 3) := by decide +kernel
theorem dX4_step_25 : decode cX4_step 25 = .ok (.bipush 32, 2) := by decide +kernel
theorem dX4_step_27 : decode cX4_step 27 = .ok (.if_icmp .ne 16, 3) := by decide +kernel
theorem dX4_step_30 : decode cX4_step 30 = .ok (.aload_n 0, 1) := by decide +kernel
theorem dX4_step_31 : decode cX4_step 31 = .ok (.dup, 1) := by decide +kernel
theorem dX4_step_32 : decode cX4_step 32 = .ok (.getfield 25, 3) := by decide +kernel
theorem dX4_step_35 : decode cX4_step 35 = .ok (.iconst 1, 1) := by decide +kernel
theorem dX4_step_36 : decode cX4_step 36 = .ok (.iadd, 1) := by decide +kernel
theorem dX4_step_37 : decode cX4_step 37 = .ok (.putfield 25, 3) := by decide +kernel
theorem dX4_step_40 : decode cX4_step 40 = .ok (.goto (-40), 3) := by decide +kernel
theorem dX4_step_43 : decode cX4_step 43 = .ok (.aload_n 0, 1) := by decide +kernel
theorem dX4_step_44 : decode cX4_step 44 = .ok (.aload_n 0, 1) := by decide +kernel
theorem dX4_step_45 : decode cX4_step 45 = .ok (.getfield 25, 3) := by decide +kernel
theorem dX4_step_48 : decode cX4_step 48 = .ok (.putfield 39, 3) := by decide +kernel
theorem dX4_step_51 : decode cX4_step 51 = .ok (.aload_n 0, 1) := by decide +kernel
theorem dX4_step_52 : decode cX4_step 52 = .ok (.getfield 25, 3) := by decide +kernel
theorem dX4_step_55 : decode cX4_step 55 = .ok (.aload_n 0, 1) := by decide +kernel
theorem dX4_step_56 : decode cX4_step 56 = .ok (.getfield 14, 3) := by decide +kernel
theorem dX4_step_59 : decode cX4_step 59 = .ok (.invokevirtual 97, 3) := by decide +kernel
theorem dX4_step_62 : decode cX4_step 62 = .ok (.if_icmp .lt 11, 3) := by decide +kernel
theorem dX4_step_65 : decode cX4_step 65 = .ok (.aload_n 0, 1) := by decide +kernel
theorem dX4_step_66 : decode cX4_step 66 = .ok (.iconst 0, 1) := by decide +kernel
theorem dX4_step_67 : decode cX4_step 67 = .ok (.putfield 32, 3) := by decide +kernel
theorem dX4_step_70 : decode cX4_step 70 = .ok (.goto 86, 3) := by decide +kernel
theorem dX4_step_73 : decode cX4_step 73 = .ok (.aload_n 0, 1) := by decide +kernel
theorem dX4_step_74 : decode cX4_step 74 = .ok (.getfield 14, 3) := by decide +kernel
theorem dX4_step_77 : decode cX4_step 77 = .ok (.aload_n 0, 1) := by decide +kernel
theorem dX4_step_78 : decode cX4_step 78 = .ok (.getfield 25, 3) := by decide +kernel
theorem dX4_step_81 : decode cX4_step 81 = .ok (.invokevirtual 101, 3) := by decide +kernel
theorem dX4_step_84 : decode cX4_step 84 = .ok (.invokestatic 104, 3) := by decide +kernel
theorem dX4_step_87 : decode cX4_step 87 = .ok (.ifCond .eq 10, 3) := by decide +kernel
theorem dX4_step_90 : decode cX4_step 90 = .ok (.aload_n 0, 1) := by decide +kernel
theorem dX4_step_91 : decode cX4_step 91 = .ok (.invokevirtual 107, 3) := by decide +kernel
theorem dX4_step_94 : decode cX4_step 94 = .ok (.goto 62, 3) := by decide +kernel
theorem dX4_step_97 : decode cX4_step 97 = .ok (.aload_n 0, 1) := by decide +kernel
theorem dX4_step_98 : decode cX4_step 98 = .ok (.getfield 14, 3) := by decide +kernel
theorem dX4_step_101 : decode cX4_step 101 = .ok (.aload_n 0, 1) := by decide +kernel
theorem dX4_step_102 : decode cX4_step 102 = .ok (.getfield 25, 3) := by decide +kernel
theorem dX4_step_105 : decode cX4_step 105 = .ok (.invokevirtual 101, 3) := by decide +kernel
theorem dX4_step_108 : decode cX4_step 108 = .ok (.invokestatic 110, 3) := by decide +kernel
theorem dX4_step_111 : decode cX4_step 111 = .ok (.ifCond .eq 10, 3) := by decide +kernel
theorem dX4_step_114 : decode cX4_step 114 = .ok (.aload_n 0, 1) := by decide +kernel
theorem dX4_step_115 : decode cX4_step 115 = .ok (.invokevirtual 113, 3) := by decide +kernel
theorem dX4_step_118 : decode cX4_step 118 = .ok (.goto 38, 3) := by decide +kernel
theorem dX4_step_121 : decode cX4_step 121 = .ok (.aload_n 0, 1) := by decide +kernel
theorem dX4_step_122 : decode cX4_step 122 = .ok (.aload_n 0, 1) := by decide +kernel
theorem dX4_step_123 : decode cX4_step 123 = .ok (.getfield 14, 3) := by decide +kernel
theorem dX4_step_126 : decode cX4_step 126 = .ok (.aload_n 0, 1) := by decide +kernel
theorem dX4_step_127 : decode cX4_step 127 = .ok (.getfield 25, 3) := by decide +kernel
theorem dX4_step_130 : decode cX4_step 130 = .ok (.invokevirtual 101, 3) := by decide +kernel
theorem dX4_step_133 : decode cX4_step 133 = .ok (.bipush 59, 2) := by decide +kernel
theorem dX4_step_135 : decode cX4_step 135 = .ok (.if_icmp .ne 7, 3) := by decide +kernel
theorem dX4_step_138 : decode cX4_step 138 = .ok (.iconst 3, 1) := by decide +kernel
theorem dX4_step_139 : decode cX4_step 139 = .ok (.goto 4, 3) := by decide +kernel
theorem dX4_step_142 : decode cX4_step 142 = .ok (.iconst 4, 1) := by decide +kernel
theorem dX4_step_143 : decode cX4_step 143 = .ok (.putfield 32, 3) := by decide +kernel
theorem dX4_step_146 : decode cX4_step 146 = .ok (.aload_n 0, 1) := by decide +kernel
theorem dX4_step_147 : decode cX4_step 147 = .ok (.dup, 1) := by decide +kernel
theorem dX4_step_148 : decode cX4_step 148 = .ok (.getfield 25, 3) := by decide +kernel
theorem dX4_step_151 : decode cX4_step 151 = .ok (.iconst 1, 1) := by decide +kernel
theorem dX4_step_152 : decode cX4_step 152 = .ok (.iadd, 1) := by decide +kernel
theorem dX4_step_153 : decode cX4_step 153 = .ok (.putfield 25, 3) := by decide +kernel
theorem dX4_step_156 : decode cX4_step 156 = .ok (.return_, 1) := by decide +kernel
theorem dX4_takeLetters_0 : decode cX4_takeLetters 0 = .ok (.aload_n 0, 1) := by decide +kernel
theorem dX4_takeLetters_1 : decode cX4_takeLetters 1 = .ok (.iconst 1, 1) := by decide +kernel
theorem dX4_takeLetters_2 : decode cX4_takeLetters 2 = .ok (.putfield 32, 3) := by decide +kernel
theorem dX4_takeLetters_5 : decode cX4_takeLetters 5 = .ok (.aload_n 0, 1) := by decide +kernel
theorem dX4_takeLetters_6 : decode cX4_takeLetters 6 = .ok (.aload_n 0, 1) := by decide +kernel
theorem dX4_takeLetters_7 : decode cX4_takeLetters 7 = .ok (.getfield 14, 3) := by decide +kernel
theorem dX4_takeLetters_10 : decode cX4_takeLetters 10 = .ok (.aload_n 0, 1) := by decide +kernel
theorem dX4_takeLetters_11 : decode cX4_takeLetters 11 = .ok (.getfield 25, 3) := by decide +kernel
theorem dX4_takeLetters_14 : decode cX4_takeLetters 14 = .ok (.invokevirtual 101, 3) := by decide +kernel
theorem dX4_takeLetters_17 : decode cX4_takeLetters 17 = .ok (.putfield 62, 3) := by decide +kernel
theorem dX4_takeLetters_20 : decode cX4_takeLetters 20 = .ok (.aload_n 0, 1) := by decide +kernel
theorem dX4_takeLetters_21 : decode cX4_takeLetters 21 = .ok (.getfield 25, 3) := by decide +kernel
theorem dX4_takeLetters_24 : decode cX4_takeLetters 24 = .ok (.aload_n 0, 1) := by decide +kernel
theorem dX4_takeLetters_25 : decode cX4_takeLetters 25 = .ok (.getfield 14, 3) := by decide +kernel
theorem dX4_takeLetters_28 : decode cX4_takeLetters 28 = .ok (.invokevirtual 97, 3) := by decide +kernel
theorem dX4_takeLetters_31 : decode cX4_takeLetters 31 = .ok (.if_icmp .ge 33, 3) := by decide +kernel
theorem dX4_takeLetters_34 : decode cX4_takeLetters 34 = .ok (.aload_n 0, 1) := by decide +kernel
theorem dX4_takeLetters_35 : decode cX4_takeLetters 35 = .ok (.getfield 14, 3) := by decide +kernel
theorem dX4_takeLetters_38 : decode cX4_takeLetters 38 = .ok (.aload_n 0, 1) := by decide +kernel
theorem dX4_takeLetters_39 : decode cX4_takeLetters 39 = .ok (.getfield 25, 3) := by decide +kernel
theorem dX4_takeLetters_42 : decode cX4_takeLetters 42 = .ok (.invokevirtual 101, 3) := by decide +kernel
theorem dX4_takeLetters_45 : decode cX4_takeLetters 45 = .ok (.invokestatic 104, 3) := by decide +kernel
theorem dX4_takeLetters_48 : decode cX4_takeLetters 48 = .ok (.ifCond .eq 16, 3) := by decide +kernel
theorem dX4_takeLetters_51 : decode cX4_takeLetters 51 = .ok (.aload_n 0, 1) := by decide +kernel
theorem dX4_takeLetters_52 : decode cX4_takeLetters 52 = .ok (.dup, 1) := by decide +kernel
theorem dX4_takeLetters_53 : decode cX4_takeLetters 53 = .ok (.getfield 25, 3) := by decide +kernel
theorem dX4_takeLetters_56 : decode cX4_takeLetters 56 = .ok (.iconst 1, 1) := by decide +kernel
theorem dX4_takeLetters_57 : decode cX4_takeLetters 57 = .ok (.iadd, 1) := by decide +kernel
theorem dX4_takeLetters_58 : decode cX4_takeLetters 58 = .ok (.putfield 25, 3) := by decide +kernel
theorem dX4_takeLetters_61 : decode cX4_takeLetters 61 = .ok (.goto (-41), 3) := by decide +kernel
theorem dX4_takeLetters_64 : decode cX4_takeLetters 64 = .ok (.aload_n 0, 1) := by decide +kernel
theorem dX4_takeLetters_65 : decode cX4_takeLetters 65 = .ok (.getfield 25, 3) := by decide +kernel
theorem dX4_takeLetters_68 : decode cX4_takeLetters 68 = .ok (.aload_n 0, 1) := by decide +kernel
theorem dX4_takeLetters_69 : decode cX4_takeLetters 69 = .ok (.getfield 39, 3) := by decide +kernel
theorem dX4_takeLetters_72 : decode cX4_takeLetters 72 = .ok (.isub, 1) := by decide +kernel
theorem dX4_takeLetters_73 : decode cX4_takeLetters 73 = .ok (.iconst 1, 1) := by decide +kernel
theorem dX4_takeLetters_74 : decode cX4_takeLetters 74 = .ok (.if_icmp .le 8, 3) := by decide +kernel
theorem dX4_takeLetters_77 : decode cX4_takeLetters 77 = .ok (.aload_n 0, 1) := by decide +kernel
theorem dX4_takeLetters_78 : decode cX4_takeLetters 78 = .ok (.iconst 0, 1) := by decide +kernel
theorem dX4_takeLetters_79 : decode cX4_takeLetters 79 = .ok (.putfield 62, 3) := by decide +kernel
theorem dX4_takeLetters_82 : decode cX4_takeLetters 82 = .ok (.return_, 1) := by decide +kernel
theorem dX4_takeNumber_0 : decode cX4_takeNumber 0 = .ok (.aload_n 0, 1) := by decide +kernel
theorem dX4_takeNumber_1 : decode cX4_takeNumber 1 = .ok (.iconst 0, 1) := by decide +kernel
theorem dX4_takeNumber_2 : decode cX4_takeNumber 2 = .ok (.putfield 62, 3) := by decide +kernel
theorem dX4_takeNumber_5 : decode cX4_takeNumber 5 = .ok (.aload_n 0, 1) := by decide +kernel
theorem dX4_takeNumber_6 : decode cX4_takeNumber 6 = .ok (.getfield 25, 3) := by decide +kernel
theorem dX4_takeNumber_9 : decode cX4_takeNumber 9 = .ok (.aload_n 0, 1) := by decide +kernel
theorem dX4_takeNumber_10 : decode cX4_takeNumber 10 = .ok (.getfield 14, 3) := by decide +kernel
theorem dX4_takeNumber_13 : decode cX4_takeNumber 13 = .ok (.invokevirtual 97, 3) := by decide +kernel
theorem dX4_takeNumber_16 : decode cX4_takeNumber 16 = .ok (.if_icmp .ge 64, 3) := by decide +kernel
theorem dX4_takeNumber_19 : decode cX4_takeNumber 19 = .ok (.aload_n 0, 1) := by decide +kernel
theorem dX4_takeNumber_20 : decode cX4_takeNumber 20 = .ok (.getfield 14, 3) := by decide +kernel
theorem dX4_takeNumber_23 : decode cX4_takeNumber 23 = .ok (.aload_n 0, 1) := by decide +kernel
theorem dX4_takeNumber_24 : decode cX4_takeNumber 24 = .ok (.getfield 25, 3) := by decide +kernel
theorem dX4_takeNumber_27 : decode cX4_takeNumber 27 = .ok (.invokevirtual 101, 3) := by decide +kernel
theorem dX4_takeNumber_30 : decode cX4_takeNumber 30 = .ok (.invokestatic 110, 3) := by decide +kernel
theorem dX4_takeNumber_33 : decode cX4_takeNumber 33 = .ok (.ifCond .eq 47, 3) := by decide +kernel
theorem dX4_takeNumber_36 : decode cX4_takeNumber 36 = .ok (.aload_n 0, 1) := by decide +kernel
theorem dX4_takeNumber_37 : decode cX4_takeNumber 37 = .ok (.aload_n 0, 1) := by decide +kernel
theorem dX4_takeNumber_38 : decode cX4_takeNumber 38 = .ok (.getfield 62, 3) := by decide +kernel
theorem dX4_takeNumber_41 : decode cX4_takeNumber 41 = .ok (.bipush 10, 2) := by decide +kernel
theorem dX4_takeNumber_43 : decode cX4_takeNumber 43 = .ok (.imul, 1) := by decide +kernel
theorem dX4_takeNumber_44 : decode cX4_takeNumber 44 = .ok (.aload_n 0, 1) := by decide +kernel
theorem dX4_takeNumber_45 : decode cX4_takeNumber 45 = .ok (.getfield 14, 3) := by decide +kernel
theorem dX4_takeNumber_48 : decode cX4_takeNumber 48 = .ok (.aload_n 0, 1) := by decide +kernel
theorem dX4_takeNumber_49 : decode cX4_takeNumber 49 = .ok (.getfield 25, 3) := by decide +kernel
theorem dX4_takeNumber_52 : decode cX4_takeNumber 52 = .ok (.invokevirtual 101, 3) := by decide +kernel
theorem dX4_takeNumber_55 : decode cX4_takeNumber 55 = .ok (.iadd, 1) := by decide +kernel
theorem dX4_takeNumber_56 : decode cX4_takeNumber 56 = .ok (.bipush 48, 2) := by decide +kernel
theorem dX4_takeNumber_58 : decode cX4_takeNumber 58 = .ok (.isub, 1) := by decide +kernel
theorem dX4_takeNumber_59 : decode cX4_takeNumber 59 = .ok (.bipush 100, 2) := by decide +kernel
theorem dX4_takeNumber_61 : decode cX4_takeNumber 61 = .ok (.invokestatic 116, 3) := by decide +kernel
theorem dX4_takeNumber_64 : decode cX4_takeNumber 64 = .ok (.putfield 62, 3) := by decide +kernel
theorem dX4_takeNumber_67 : decode cX4_takeNumber 67 = .ok (.aload_n 0, 1) := by decide +kernel
theorem dX4_takeNumber_68 : decode cX4_takeNumber 68 = .ok (.dup, 1) := by decide +kernel
theorem dX4_takeNumber_69 : decode cX4_takeNumber 69 = .ok (.getfield 25, 3) := by decide +kernel
theorem dX4_takeNumber_72 : decode cX4_takeNumber 72 = .ok (.iconst 1, 1) := by decide +kernel
theorem dX4_takeNumber_73 : decode cX4_takeNumber 73 = .ok (.iadd, 1) := by decide +kernel
theorem dX4_takeNumber_74 : decode cX4_takeNumber 74 = .ok (.putfield 25, 3) := by decide +kernel
theorem dX4_takeNumber_77 : decode cX4_takeNumber 77 = .ok (.goto (-72), 3) := by decide +kernel
theorem dX4_takeNumber_80 : decode cX4_takeNumber 80 = .ok (.aload_n 0, 1) := by decide +kernel
theorem dX4_takeNumber_81 : decode cX4_takeNumber 81 = .ok (.getfield 25, 3) := by decide +kernel
theorem dX4_takeNumber_84 : decode cX4_takeNumber 84 = .ok (.aload_n 0, 1) := by decide +kernel
theorem dX4_takeNumber_85 : decode cX4_takeNumber 85 = .ok (.getfield 39, 3) := by decide +kernel
theorem dX4_takeNumber_88 : decode cX4_takeNumber 88 = .ok (.isub, 1) := by decide +kernel
theorem dX4_takeNumber_89 : decode cX4_takeNumber 89 = .ok (.iconst 1, 1) := by decide +kernel
theorem dX4_takeNumber_90 : decode cX4_takeNumber 90 = .ok (.if_icmp .le 23, 3) := by decide +kernel
theorem dX4_takeNumber_93 : decode cX4_takeNumber 93 = .ok (.aload_n 0, 1) := by decide +kernel
theorem dX4_takeNumber_94 : decode cX4_takeNumber 94 = .ok (.getfield 14, 3) := by decide +kernel
theorem dX4_takeNumber_97 : decode cX4_takeNumber 97 = .ok (.aload_n 0, 1) := by decide +kernel
theorem dX4_takeNumber_98 : decode cX4_takeNumber 98 = .ok (.getfield 39, 3) := by decide +kernel
theorem dX4_takeNumber_101 : decode cX4_takeNumber 101 = .ok (.invokevirtual 101, 3) := by decide +kernel
theorem dX4_takeNumber_104 : decode cX4_takeNumber 104 = .ok (.bipush 48, 2) := by decide +kernel
theorem dX4_takeNumber_106 : decode cX4_takeNumber 106 = .ok (.if_icmp .ne 7, 3) := by decide +kernel
theorem dX4_takeNumber_109 : decode cX4_takeNumber 109 = .ok (.iconst 1, 1) := by decide +kernel
theorem dX4_takeNumber_110 : decode cX4_takeNumber 110 = .ok (.goto 4, 3) := by decide +kernel
theorem dX4_takeNumber_113 : decode cX4_takeNumber 113 = .ok (.iconst 0, 1) := by decide +kernel
theorem dX4_takeNumber_114 : decode cX4_takeNumber 114 = .ok (.istore_n 1, 1) := by decide +kernel
theorem dX4_takeNumber_115 : decode cX4_takeNumber 115 = .ok (.aload_n 0, 1) := by decide +kernel
theorem dX4_takeNumber_116 : decode cX4_takeNumber 116 = .ok (.iload_n 1, 1) := by decide +kernel
theorem dX4_takeNumber_117 : decode cX4_takeNumber 117 = .ok (.ifCond .ne 12, 3) := by decide +kernel
theorem dX4_takeNumber_120 : decode cX4_takeNumber 120 = .ok (.aload_n 0, 1) := by decide +kernel
theorem dX4_takeNumber_121 : decode cX4_takeNumber 121 = .ok (.getfield 62, 3) := by decide +kernel
theorem dX4_takeNumber_124 : decode cX4_takeNumber 124 = .ok (.bipush 99, 2) := by decide +kernel
theorem dX4_takeNumber_126 : decode cX4_takeNumber 126 = .ok (.if_icmp .le 7, 3) := by decide +kernel
theorem dX4_takeNumber_129 : decode cX4_takeNumber 129 = .ok (.iconst 4, 1) := by decide +kernel
theorem dX4_takeNumber_130 : decode cX4_takeNumber 130 = .ok (.goto 4, 3) := by decide +kernel
theorem dX4_takeNumber_133 : decode cX4_takeNumber 133 = .ok (.iconst 2, 1) := by decide +kernel
theorem dX4_takeNumber_134 : decode cX4_takeNumber 134 = .ok (.putfield 32, 3) := by decide +kernel
theorem dX4_takeNumber_137 : decode cX4_takeNumber 137 = .ok (.return_, 1) := by decide +kernel
theorem dX4_isLetter_0 : decode cX4_isLetter 0 = .ok (.iload_n 0, 1) := by decide +kernel
theorem dX4_isLetter_1 : decode cX4_isLetter 1 = .ok (.bipush 97, 2) := by decide +kernel
theorem dX4_isLetter_3 : decode cX4_isLetter 3 = .ok (.if_icmp .lt 13, 3) := by decide +kernel
theorem dX4_isLetter_6 : decode cX4_isLetter 6 = .ok (.iload_n 0, 1) := by decide +kernel
theorem dX4_isLetter_7 : decode cX4_isLetter 7 = .ok (.bipush 122, 2) := by decide +kernel
theorem dX4_isLetter_9 : decode cX4_isLetter 9 = .ok (.if_icmp .gt 7, 3) := by decide +kernel
theorem dX4_isLetter_12 : decode cX4_isLetter 12 = .ok (.iconst 1, 1) := by decide +kernel
theorem dX4_isLetter_13 : decode cX4_isLetter 13 = .ok (.goto 4, 3) := by decide +kernel
theorem dX4_isLetter_16 : decode cX4_isLetter 16 = .ok (.iconst 0, 1) := by decide +kernel
theorem dX4_isLetter_17 : decode cX4_isLetter 17 = .ok (.ireturn, 1) := by decide +kernel
theorem dX4_isDigit_0 : decode cX4_isDigit 0 = .ok (.iload_n 0, 1) := by decide +kernel
theorem dX4_isDigit_1 : decode cX4_isDigit 1 = .ok (.bipush 48, 2) := by decide +kernel
theorem dX4_isDigit_3 : decode cX4_isDigit 3 = .ok (.if_icmp .lt 13, 3) := by decide +kernel
theorem dX4_isDigit_6 : decode cX4_isDigit 6 = .ok (.iload_n 0, 1) := by decide +kernel
theorem dX4_isDigit_7 : decode cX4_isDigit 7 = .ok (.bipush 57, 2) := by decide +kernel
theorem dX4_isDigit_9 : decode cX4_isDigit 9 = .ok (.if_icmp .gt 7, 3) := by decide +kernel
theorem dX4_isDigit_12 : decode cX4_isDigit 12 = .ok (.iconst 1, 1) := by decide +kernel
theorem dX4_isDigit_13 : decode cX4_isDigit 13 = .ok (.goto 4, 3) := by decide +kernel
theorem dX4_isDigit_16 : decode cX4_isDigit 16 = .ok (.iconst 0, 1) := by decide +kernel
theorem dX4_isDigit_17 : decode cX4_isDigit 17 = .ok (.ireturn, 1) := by decide +kernel
end
section
theorem dX5_init_0 : decode cX5_init 0 = .ok (.aload_n 0, 1) := by decide +kernel
theorem dX5_init_1 : decode cX5_init 1 = .ok (.invokespecial 3, 3) := by decide +kernel
theorem dX5_init_4 : decode cX5_init 4 = .ok (.aload_n 0, 1) := by decide +kernel
theorem dX5_init_5 : decode cX5_init 5 = .ok (.iload_n 1, 1) := by decide +kernel
theorem dX5_init_6 : decode cX5_init 6 = .ok (.iconst 0, 1) := by decide +kernel
theorem dX5_init_7 : decode cX5_init 7 = .ok (.invokestatic 9, 3) := by decide +kernel
theorem dX5_init_10 : decode cX5_init 10 = .ok (.newarray .int, 2) := by decide +kernel
theorem dX5_init_12 : decode cX5_init 12 = .ok (.putfield 15, 3) := by decide +kernel
theorem dX5_init_15 : decode cX5_init 15 = .ok (.return_, 1) := by decide +kernel
theorem dX5_length_0 : decode cX5_length 0 = .ok (.aload_n 0, 1) := by decide +kernel
theorem dX5_length_1 : decode cX5_length 1 = .ok (.getfield 21, 3) := by decide +kernel
theorem dX5_length_4 : decode cX5_length 4 = .ok (.ireturn, 1) := by decide +kernel
theorem dX5_has_0 : decode cX5_has 0 = .ok (.iload_n 1, 1) := by decide +kernel
theorem dX5_has_1 : decode cX5_has 1 = .ok (.ifCond .lt 24, 3) := by decide +kernel
theorem dX5_has_4 : decode cX5_has 4 = .ok (.iload_n 1, 1) := by decide +kernel
theorem dX5_has_5 : decode cX5_has 5 = .ok (.aload_n 0, 1) := by decide +kernel
theorem dX5_has_6 : decode cX5_has 6 = .ok (.getfield 21, 3) := by decide +kernel
theorem dX5_has_9 : decode cX5_has 9 = .ok (.if_icmp .ge 16, 3) := by decide +kernel
theorem dX5_has_12 : decode cX5_has 12 = .ok (.iload_n 1, 1) := by decide +kernel
theorem dX5_has_13 : decode cX5_has 13 = .ok (.aload_n 0, 1) := by decide +kernel
theorem dX5_has_14 : decode cX5_has 14 = .ok (.getfield 15, 3) := by decide +kernel
theorem dX5_has_17 : decode cX5_has 17 = .ok (.arraylength, 1) := by decide +kernel
theorem dX5_has_18 : decode cX5_has 18 = .ok (.if_icmp .ge 7, 3) := by decide +kernel
theorem dX5_has_21 : decode cX5_has 21 = .ok (.iconst 1, 1) := by decide +kernel
theorem dX5_has_22 : decode cX5_has 22 = .ok (.goto 4, 3) := by decide +kernel
theorem dX5_has_25 : decode cX5_has 25 = .ok (.iconst 0, 1) := by decide +kernel
theorem dX5_has_26 : decode cX5_has 26 = .ok (.ireturn, 1) := by decide +kernel
theorem dX5_cell_0 : decode cX5_cell 0 = .ok (.iload_n 1, 1) := by decide +kernel
theorem dX5_cell_1 : decode cX5_cell 1 = .ok (.ifCond .lt 29, 3) := by decide +kernel
theorem dX5_cell_4 : decode cX5_cell 4 = .ok (.iload_n 1, 1) := by decide +kernel
theorem dX5_cell_5 : decode cX5_cell 5 = .ok (.aload_n 0, 1) := by decide +kernel
theorem dX5_cell_6 : decode cX5_cell 6 = .ok (.getfield 21, 3) := by decide +kernel
theorem dX5_cell_9 : decode cX5_cell 9 = .ok (.if_icmp .ge 21, 3) := by decide +kernel
theorem dX5_cell_12 : decode cX5_cell 12 = .ok (.iload_n 1, 1) := by decide +kernel
theorem dX5_cell_13 : decode cX5_cell 13 = .ok (.aload_n 0, 1) := by decide +kernel
theorem dX5_cell_14 : decode cX5_cell 14 = .ok (.getfield 15, 3) := by decide +kernel
theorem dX5_cell_17 : decode cX5_cell 17 = .ok (.arraylength, 1) := by decide +kernel
theorem dX5_cell_18 : decode cX5_cell 18 = .ok (.if_icmp .ge 12, 3) := by decide +kernel
theorem dX5_cell_21 : decode cX5_cell 21 = .ok (.aload_n 0, 1) := by decide +kernel
theorem dX5_cell_22 : decode cX5_cell 22 = .ok (.getfield 15, 3) := by decide +kernel
theorem dX5_cell_25 : decode cX5_cell 25 = .ok (.iload_n 1, 1) := by decide +kernel
theorem dX5_cell_26 : decode cX5_cell 26 = .ok (.iaload, 1) := by decide +kernel
theorem dX5_cell_27 : decode cX5_cell 27 = .ok (.goto 5, 3) := by decide +kernel
theorem dX5_cell_30 : decode cX5_cell 30 = .ok (.bipush (-9), 2) := by decide +kernel
theorem dX5_cell_32 : decode cX5_cell 32 = .ok (.ireturn, 1) := by decide +kernel
theorem dX5_setCell_0 : decode cX5_setCell 0 = .ok (.aload_n 0, 1) := by decide +kernel
theorem dX5_setCell_1 : decode cX5_setCell 1 = .ok (.iload_n 1, 1) := by decide +kernel
theorem dX5_setCell_2 : decode cX5_setCell 2 = .ok (.invokevirtual 25, 3) := by decide +kernel
theorem dX5_setCell_5 : decode cX5_setCell 5 = .ok (.ifCond .eq 10, 3) := by decide +kernel
theorem dX5_setCell_8 : decode cX5_setCell 8 = .ok (.aload_n 0, 1) := by decide +kernel
theorem dX5_setCell_9 : decode cX5_setCell 9 = .ok (.getfield 15, 3) := by decide +kernel
theorem dX5_setCell_12 : decode cX5_setCell 12 = .ok (.iload_n 1, 1) := by decide +kernel
theorem dX5_setCell_13 : decode cX5_setCell 13 = .ok (.iload_n 2, 1) := by decide +kernel
theorem dX5_setCell_14 : decode cX5_setCell 14 = .ok (.iastore, 1) := by decide +kernel
theorem dX5_setCell_15 : decode cX5_setCell 15 = .ok (.return_, 1) := by decide +kernel
theorem dX5_swapWithNext_0 : decode cX5_swapWithNext 0 = .ok (.aload_n 0, 1) := by decide +kernel
theorem dX5_swapWithNext_1 : decode cX5_swapWithNext 1 = .ok (.iload_n 1, 1) := by decide +kernel
theorem dX5_swapWithNext_2 : decode cX5_swapWithNext 2 = .ok (.invokevirtual 25, 3) := by decide +kernel
theorem dX5_swapWithNext_5 : decode cX5_swapWithNext 5 = .ok (.ifCond .eq 43, 3) := by decide +kernel
theorem dX5_swapWithNext_8 : decode cX5_swapWithNext 8 = .ok (.aload_n 0, 1) := by decide +kernel
theorem dX5_swapWithNext_9 : decode cX5_swapWithNext 9 = .ok (.iload_n 1, 1) := by decide +kernel
theorem dX5_swapWithNext_10 : decode cX5_swapWithNext 10 = .ok (.iconst 1, 1) := by decide +kernel
theorem dX5_swapWithNext_11 : decode cX5_swapWithNext 11 = .ok (.iadd, 1) := by decide +kernel
theorem dX5_swapWithNext_12 : decode cX5_swapWithNext 12 = .ok (.invokevirtual 25, 3) := by decide +kernel
theorem dX5_swapWithNext_15 : decode cX5_swapWithNext 15 = .ok (.ifCond .eq 33, 3) := by decide +kernel
theorem dX5_swapWithNext_18 : decode cX5_swapWithNext 18 = .ok (.aload_n 0, 1) := by decide +kernel
theorem dX5_swapWithNext_19 : decode cX5_swapWithNext 19 = .ok (.getfield 15, 3) := by decide +kernel
theorem dX5_swapWithNext_22 : decode cX5_swapWithNext 22 = .ok (.iload_n 1, 1) := by decide +kernel
theorem dX5_swapWithNext_23 : decode cX5_swapWithNext 23 = .ok (.iconst 1, 1) := by decide +kernel
theorem dX5_swapWithNext_24 : decode cX5_swapWithNext 24 = .ok (.iadd, 1) := by decide +kernel
theorem dX5_swapWithNext_25 : decode cX5_swapWithNext 25 = .ok (.iaload, 1) := by decide +kernel
theorem dX5_swapWithNext_26 : decode cX5_swapWithNext 26 = .ok (.istore_n 2, 1) := by decide +kernel
theorem dX5_swapWithNext_27 : decode cX5_swapWithNext 27 = .ok (.aload_n 0, 1) := by decide +kernel
theorem dX5_swapWithNext_28 : decode cX5_swapWithNext 28 = .ok (.getfield 15, 3) := by decide +kernel
theorem dX5_swapWithNext_31 : decode cX5_swapWithNext 31 = .ok (.iload_n 1, 1) := by decide +kernel
theorem dX5_swapWithNext_32 : decode cX5_swapWithNext 32 = .ok (.iconst 1, 1) := by decide +kernel
theorem dX5_swapWithNext_33 : decode cX5_swapWithNext 33 = .ok (.iadd, 1) := by decide +kernel
theorem dX5_swapWithNext_34 : decode cX5_swapWithNext 34 = .ok (.aload_n 0, 1) := by decide +kernel
theorem dX5_swapWithNext_35 : decode cX5_swapWithNext 35 = .ok (.getfield 15, 3) := by decide +kernel
theorem dX5_swapWithNext_38 : decode cX5_swapWithNext 38 = .ok (.iload_n 1, 1) := by decide +kernel
theorem dX5_swapWithNext_39 : decode cX5_swapWithNext 39 = .ok (.iaload, 1) := by decide +kernel
theorem dX5_swapWithNext_40 : decode cX5_swapWithNext 40 = .ok (.iastore, 1) := by decide +kernel
theorem dX5_swapWithNext_41 : decode cX5_swapWithNext 41 = .ok (.aload_n 0, 1) := by decide +kernel
theorem dX5_swapWithNext_42 : decode cX5_swapWithNext 42 = .ok (.getfield 15, 3) := by decide +kernel
theorem dX5_swapWithNext_45 : decode cX5_swapWithNext 45 = .ok (.iload_n 1, 1) := by decide +kernel
theorem dX5_swapWithNext_46 : decode cX5_swapWithNext 46 = .ok (.iload_n 2, 1) := by decide +kernel
theorem dX5_swapWithNext_47 : decode cX5_swapWithNext 47 = .ok (.iastore, 1) := by decide +kernel
theorem dX5_swapWithNext_48 : decode cX5_swapWithNext 48 = .ok (.return_, 1) := by decide +kernel
theorem dX5_empty_0 : decode cX5_empty 0 = .ok (.aload_n 0, 1) := by decide +kernel
theorem dX5_empty_1 : decode cX5_empty 1 = .ok (.iconst 0, 1) := by decide +kernel
theorem dX5_empty_2 : decode cX5_empty 2 = .ok (.putfield 21, 3) := by decide +kernel
theorem dX5_empty_5 : decode cX5_empty 5 = .ok (.return_, 1) := by decide +kernel
theorem dX5_push_0 : decode cX5_push 0 = .ok (.aload_n 0, 1) := by decide +kernel
theorem dX5_push_1 : decode cX5_push 1 = .ok (.getfield 21, 3) := by decide +kernel
theorem dX5_push_4 : decode cX5_push 4 = .ok (.ifCond .lt 15, 3) := by decide +kernel
theorem dX5_push_7 : decode cX5_push 7 = .ok (.aload_n 0, 1) := by decide +kernel
theorem dX5_push_8 : decode cX5_push 8 = .ok (.getfield 21, 3) := by decide +kernel
theorem dX5_push_11 : decode cX5_push 11 = .ok (.aload_n 0, 1) := by decide +kernel
theorem dX5_push_12 : decode cX5_push 12 = .ok (.getfield 15, 3) := by decide +kernel
theorem dX5_push_15 : decode cX5_push 15 = .ok (.arraylength, 1) := by decide +kernel
theorem dX5_push_16 : decode cX5_push 16 = .ok (.if_icmp .lt 5, 3) := by decide +kernel
theorem dX5_push_19 : decode cX5_push 19 = .ok (.iconst 0, 1) := by decide +kernel
theorem dX5_push_20 : decode cX5_push 20 = .ok (.ireturn, 1) := by decide +kernel
theorem dX5_push_21 : decode cX5_push 21 = .ok (.aload_n 0, 1) := by decide +kernel
theorem dX5_push_22 : decode cX5_push 22 = .ok (.getfield 15, 3) := by decide +kernel
theorem dX5_push_25 : decode cX5_push 25 = .ok (.aload_n 0, 1) := by decide +kernel
theorem dX5_push_26 : decode cX5_push 26 = .ok (.getfield 21, 3) := by decide +kernel
theorem dX5_push_29 : decode cX5_push 29 = .ok (.iload_n 1, 1) := by decide +kernel
theorem dX5_push_30 : decode cX5_push 30 = .ok (.iastore, 1) := by decide +kernel
theorem dX5_push_31 : decode cX5_push 31 = .ok (.aload_n 0, 1) := by decide +kernel
theorem dX5_push_32 : decode cX5_push 32 = .ok (.dup, 1) := by decide +kernel
theorem dX5_push_33 : decode cX5_push 33 = .ok (.getfield 21, 3) := by decide +kernel
theorem dX5_push_36 : decode cX5_push 36 = .ok (.iconst 1, 1) := by decide +kernel
theorem dX5_push_37 : decode cX5_push 37 = .ok (.iadd, 1) := by decide +kernel
theorem dX5_push_38 : decode cX5_push 38 = .ok (.putfield 21, 3) := by decide +kernel
theorem dX5_push_41 : decode cX5_push 41 = .ok (.iconst 1, 1) := by decide +kernel
theorem dX5_push_42 : decode cX5_push 42 = .ok (.ireturn, 1) := by decide +kernel
theorem dX5_shorten_0 : decode cX5_shorten 0 = .ok (.iload_n 1, 1) := by decide +kernel
theorem dX5_shorten_1 : decode cX5_shorten 1 = .ok (.ifCond .lt 16, 3) := by decide +kernel
theorem dX5_shorten_4 : decode cX5_shorten 4 = .ok (.iload_n 1, 1) := by decide +kernel
theorem dX5_shorten_5 : decode cX5_shorten 5 = .ok (.aload_n 0, 1) := by decide +kernel
theorem dX5_shorten_6 : decode cX5_shorten 6 = .ok (.getfield 21, 3) := by decide +kernel
theorem dX5_shorten_9 : decode cX5_shorten 9 = .ok (.if_icmp .ge 8, 3) := by decide +kernel
theorem dX5_shorten_12 : decode cX5_shorten 12 = .ok (.aload_n 0, 1) := by decide +kernel
theorem dX5_shorten_13 : decode cX5_shorten 13 = .ok (.iload_n 1, 1) := by decide +kernel
theorem dX5_shorten_14 : decode cX5_shorten 14 = .ok (.putfield 21, 3) := by decide +kernel
theorem dX5_shorten_17 : decode cX5_shorten 17 = .ok (.return_, 1) := by decide +kernel
theorem dX5_become_0 : decode cX5_become 0 = .ok (.aload_n 1, 1) := by decide +kernel
theorem dX5_become_1 : decode cX5_become 1 = .ok (.aload_n 0, 1) := by decide +kernel
theorem dX5_become_2 : decode cX5_become 2 = .ok (.if_acmp .eq 13, 3) := by decide +kernel
theorem dX5_become_5 : decode cX5_become 5 = .ok (.aload_n 0, 1) := by decide +kernel
theorem dX5_become_6 : decode cX5_become 6 = .ok (.iconst 0, 1) := by decide +kernel
theorem dX5_become_7 : decode cX5_become 7 = .ok (.putfield 21, 3) := by decide +kernel
theorem dX5_become_10 : decode cX5_become 10 = .ok (.aload_n 0, 1) := by decide +kernel
theorem dX5_become_11 : decode cX5_become 11 = .ok (.aload_n 1, 1) := by decide +kernel
theorem dX5_become_12 : decode cX5_become 12 = .ok (.invokevirtual 29, 3) := by decide +kernel
theorem dX5_become_15 : decode cX5_become 15 = .ok (.return_, 1) := by decide +kernel
theorem dX5_extend_0 : decode cX5_extend 0 = .ok (.aload_n 1, 1) := by decide +kernel
theorem dX5_extend_1 : decode cX5_extend 1 = .ok (.getfield 21, 3) := by decide +kernel
theorem dX5_extend_4 : decode cX5_extend 4 = .ok (.istore_n 2, 1) := by decide +kernel
theorem dX5_extend_5 : decode cX5_extend 5 = .ok (.iconst 0, 1) := by decide +kernel
theorem dX5_extend_6 : decode cX5_extend 6 = .ok (.istore_n 3, 1) := by decide +kernel
theorem dX5_extend_7 : decode cX5_extend 7 = .ok (.iload_n 3, 1) := by decide +kernel
theorem dX5_extend_8 : decode cX5_extend 8 = .ok (.iload_n 2, 1) := by decide +kernel
theorem dX5_extend_9 : decode cX5_extend 9 = .ok (.if_icmp .ge 19, 3) := by decide +kernel
theorem dX5_extend_12 : decode cX5_extend 12 = .ok (.aload_n 0, 1) := by decide +kernel
theorem dX5_extend_13 : decode cX5_extend 13 = .ok (.aload_n 1, 1) := by decide +kernel
theorem dX5_extend_14 : decode cX5_extend 14 = .ok (.iload_n 3, 1) := by decide +kernel
theorem dX5_extend_15 : decode cX5_extend 15 = .ok (.invokevirtual 33, 3) := by decide +kernel
theorem dX5_extend_18 : decode cX5_extend 18 = .ok (.invokevirtual 37, 3) := by decide +kernel
theorem dX5_extend_21 : decode cX5_extend 21 = .ok (.pop, 1) := by decide +kernel
theorem dX5_extend_22 : decode cX5_extend 22 = .ok (.iinc 3 1, 3) := by decide +kernel
theorem dX5_extend_25 : decode cX5_extend 25 = .ok (.goto (-18), 3) := by decide +kernel
theorem dX5_extend_28 : decode cX5_extend 28 = .ok (.return_, 1) := by decide +kernel
theorem dX5_isLike_0 : decode cX5_isLike 0 = .ok (.aload_n 0, 1) := by decide +kernel
theorem dX5_isLike_1 : decode cX5_isLike 1 = .ok (.getfield 21, 3) := by decide +kernel
theorem dX5_isLike_4 : decode cX5_isLike 4 = .ok (.aload_n 1, 1) := by decide +kernel
theorem dX5_isLike_5 : decode cX5_isLike 5 = .ok (.getfield 21, 3) := by decide +kernel
theorem dX5_isLike_8 : decode cX5_isLike 8 = .ok (.if_icmp .ne 19, 3) := by decide +kernel
theorem dX5_isLike_11 : decode cX5_isLike 11 = .ok (.aload_n 0, 1) := by decide +kernel
theorem dX5_isLike_12 : decode cX5_isLike 12 = .ok (.aload_n 1, 1) := by decide +kernel
theorem dX5_isLike_13 : decode cX5_isLike 13 = .ok (.invokevirtual 40, 3) := by decide +kernel
theorem dX5_isLike_16 : decode cX5_isLike 16 = .ok (.aload_n 0, 1) := by decide +kernel
theorem dX5_isLike_17 : decode cX5_isLike 17 = .ok (.getfield 21, 3) := by decide +kernel
theorem dX5_isLike_20 : decode cX5_isLike 20 = .ok (.if_icmp .ne 7, 3) := by decide +kernel
theorem dX5_isLike_23 : decode cX5_isLike 23 = .ok (.iconst 1, 1) := by decide +kernel
theorem dX5_isLike_24 : decode cX5_isLike 24 = .ok (.goto 4, 3) := by decide +kernel
theorem dX5_isLike_27 : decode cX5_isLike 27 = .ok (.iconst 0, 1) := by decide +kernel
theorem dX5_isLike_28 : decode cX5_isLike 28 = .ok (.ireturn, 1) := by decide +kernel
theorem dX5_alikeAhead_0 : decode cX5_alikeAhead 0 = .ok (.aload_n 0, 1) := by decide +kernel
theorem dX5_alikeAhead_1 : decode cX5_alikeAhead 1 = .ok (.getfield 21, 3) := by decide +kernel
theorem dX5_alikeAhead_4 : decode cX5_alikeAhead 4 = .ok (.aload_n 1, 1) := by decide +kernel
theorem dX5_alikeAhead_5 : decode cX5_alikeAhead 5 = .ok (.getfield 21, 3) := by decide +kernel
theorem dX5_alikeAhead_8 : decode cX5_alikeAhead 8 = .ok (.invokestatic 44, 3) := by decide +kernel
theorem dX5_alikeAhead_11 : decode cX5_alikeAhead 11 = .ok (.istore_n 2, 1) := by decide +kernel
theorem dX5_alikeAhead_12 : decode cX5_alikeAhead 12 = .ok (.iconst 0, 1) := by decide +kernel
theorem dX5_alikeAhead_13 : decode cX5_alikeAhead 13 = .ok (.istore_n 3, 1) := by decide +kernel
theorem dX5_alikeAhead_14 : decode cX5_alikeAhead 14 = .ok (.iload_n 3, 1) := by decide +kernel
theorem dX5_alikeAhead_15 : decode cX5_alikeAhead 15 = .ok (.iload_n 2, 1) := by decide +kernel
theorem dX5_alikeAhead_16 : decode cX5_alikeAhead 16 = .ok (.if_icmp .ge 24, 3) := by decide +kernel
theorem dX5_alikeAhead_19 : decode cX5_alikeAhead 19 = .ok (.aload_n 0, 1) := by decide +kernel
theorem dX5_alikeAhead_20 : decode cX5_alikeAhead 20 = .ok (.iload_n 3, 1) := by decide +kernel
theorem dX5_alikeAhead_21 : decode cX5_alikeAhead 21 = .ok (.invokevirtual 33, 3) := by decide +kernel
theorem dX5_alikeAhead_24 : decode cX5_alikeAhead 24 = .ok (.aload_n 1, 1) := by decide +kernel
theorem dX5_alikeAhead_25 : decode cX5_alikeAhead 25 = .ok (.iload_n 3, 1) := by decide +kernel
theorem dX5_alikeAhead_26 : decode cX5_alikeAhead 26 = .ok (.invokevirtual 33, 3) := by decide +kernel
theorem dX5_alikeAhead_29 : decode cX5_alikeAhead 29 = .ok (.if_icmp .eq 5, 3) := by decide +kernel
theorem dX5_alikeAhead_32 : decode cX5_alikeAhead 32 = .ok (.iload_n 3, 1) := by decide +kernel
theorem dX5_alikeAhead_33 : decode cX5_alikeAhead 33 = .ok (.ireturn, 1) := by decide +kernel
theorem dX5_alikeAhead_34 : decode cX5_alikeAhead 34 = .ok (.iinc 3 1, 3) := by decide +kernel
theorem dX5_alikeAhead_37 : decode cX5_alikeAhead 37 = .ok (.goto (-23), 3) := by decide +kernel
theorem dX5_alikeAhead_40 : decode cX5_alikeAhead 40 = .ok (.iload_n 2, 1) := by decide +kernel
theorem dX5_alikeAhead_41 : decode cX5_alikeAhead 41 = .ok (.ireturn, 1) := by decide +kernel
theorem dX5_alikeBehind_0 : decode cX5_alikeBehind 0 = .ok (.aload_n 0, 1) := by decide +kernel
theorem dX5_alikeBehind_1 : decode cX5_alikeBehind 1 = .ok (.getfield 21, 3) := by decide +kernel
theorem dX5_alikeBehind_4 : decode cX5_alikeBehind 4 = .ok (.aload_n 1, 1) := by decide +kernel
theorem dX5_alikeBehind_5 : decode cX5_alikeBehind 5 = .ok (.getfield 21, 3) := by decide +kernel
theorem dX5_alikeBehind_8 : decode cX5_alikeBehind 8 = .ok (.invokestatic 44, 3) := by decide +kernel
theorem dX5_alikeBehind_11 : decode cX5_alikeBehind 11 = .ok (.istore_n 2, 1) := by decide +kernel
theorem dX5_alikeBehind_12 : decode cX5_alikeBehind 12 = .ok (.iconst 0, 1) := by decide +kernel
theorem dX5_alikeBehind_13 : decode cX5_alikeBehind 13 = .ok (.istore_n 3, 1) := by decide +kernel
theorem dX5_alikeBehind_14 : decode cX5_alikeBehind 14 = .ok (.iload_n 3, 1) := by decide +kernel
theorem dX5_alikeBehind_15 : decode cX5_alikeBehind 15 = .ok (.iload_n 2, 1) := by decide +kernel
theorem dX5_alikeBehind_16 : decode cX5_alikeBehind 16 = .ok (.if_icmp .ge 38, 3) := by decide +kernel
theorem dX5_alikeBehind_19 : decode cX5_alikeBehind 19 = .ok (.aload_n 0, 1) := by decide +kernel
theorem dX5_alikeBehind_20 : decode cX5_alikeBehind 20 = .ok (.aload_n 0, 1) := by decide +kernel
theorem dX5_alikeBehind_21 : decode cX5_alikeBehind 21 = .ok (.getfield 21, 3) := by decide +kernel
theorem dX5_alikeBehind_24 : decode cX5_alikeBehind 24 = .ok (.iconst 1, 1) := by decide +kernel
theorem dX5_alikeBehind_25 : decode cX5_alikeBehind 25 = .ok (.isub, 1) := by decide +kernel
theorem dX5_alikeBehind_26 : decode cX5_alikeBehind 26 = .ok (.iload_n 3, 1) := by decide +kernel
theorem dX5_alikeBehind_27 : decode cX5_alikeBehind 27 = .ok (.isub, 1) := by decide +kernel
theorem dX5_alikeBehind_28 : decode cX5_alikeBehind 28 = .ok (.invokevirtual 33, 3) := by decide +kernel
theorem dX5_alikeBehind_31 : decode cX5_alikeBehind 31 = .ok (.aload_n 1, 1) := by decide +kernel
theorem dX5_alikeBehind_32 : decode cX5_alikeBehind 32 = .ok (.aload_n 1, 1) := by decide +kernel
theorem dX5_alikeBehind_33 : decode cX5_alikeBehind 33 = .ok (.getfield 21, 3) := by decide +kernel
theorem dX5_alikeBehind_36 : decode cX5_alikeBehind 36 = .ok (.iconst 1, 1) := by decide +kernel
theorem dX5_alikeBehind_37 : decode cX5_alikeBehind 37 = .ok (.isub, 1) := by decide +kernel
theorem dX5_alikeBehind_38 : decode cX5_alikeBehind 38 = .ok (.iload_n 3, 1) := by decide +kernel
theorem dX5_alikeBehind_39 : decode cX5_alikeBehind 39 = .ok (.isub, 1) := by decide +kernel
theorem dX5_alikeBehind_40 : decode cX5_alikeBehind 40 = .ok (.invokevirtual 33, 3) := by decide +kernel
theorem dX5_alikeBehind_43 : decode cX5_alikeBehind 43 = .ok (.if_icmp .eq 5, 3) := by decide +kernel
theorem dX5_alikeBehind_46 : decode cX5_alikeBehind 46 = .ok (.iload_n 3, 1) := by decide +kernel
theorem dX5_alikeBehind_47 : decode cX5_alikeBehind 47 = .ok (.ireturn, 1) := by decide +kernel
theorem dX5_alikeBehind_48 : decode cX5_alikeBehind 48 = .ok (.iinc 3 1, 3) := by decide +kernel
theorem dX5_alikeBehind_51 : decode cX5_alikeBehind 51 = .ok (.goto (-37), 3) := by decide +kernel
theorem dX5_alikeBehind_54 : decode cX5_alikeBehind 54 = .ok (.iload_n 2, 1) := by decide +kernel
theorem dX5_alikeBehind_55 : decode cX5_alikeBehind 55 = .ok (.ireturn, 1) := by decide +kernel
theorem dX6_init_0 : decode cX6_init 0 = .ok (.aload_n 0, 1) := by decide +kernel
theorem dX6_init_1 : decode cX6_init 1 = .ok (.invokespecial 3, 3) := by decide +kernel
theorem dX6_init_4 : decode cX6_init 4 = .ok (.aload_n 0, 1) := by decide +kernel
theorem dX6_init_5 : decode cX6_init 5 = .ok (.new 9, 3) := by decide +kernel
theorem dX6_init_8 : decode cX6_init 8 = .ok (.dup, 1) := by decide +kernel
theorem dX6_init_9 : decode cX6_init 9 = .ok (.bipush 32, 2) := by decide +kernel
theorem dX6_init_11 : decode cX6_init 11 = .ok (.invokespecial 11, 3) := by decide +kernel
theorem dX6_init_14 : decode cX6_init 14 = .ok (.putfield 14, 3) := by decide +kernel
theorem dX6_init_17 : decode cX6_init 17 = .ok (.aload_n 0, 1) := by decide +kernel
theorem dX6_init_18 : decode cX6_init 18 = .ok (.new 9, 3) := by decide +kernel
theorem dX6_init_21 : decode cX6_init 21 = .ok (.dup, 1) := by decide +kernel
theorem dX6_init_22 : decode cX6_init 22 = .ok (.sipush 128, 3) := by decide +kernel
theorem dX6_init_25 : decode cX6_init 25 = .ok (.invokespecial 11, 3) := by decide +kernel
theorem dX6_init_28 : decode cX6_init 28 = .ok (.putfield 20, 3) := by decide +kernel
theorem dX6_init_31 : decode cX6_init 31 = .ok (.return_, 1) := by decide +kernel
theorem dX6_make_0 : decode cX6_make 0 = .ok (.aload 4, 2) := by decide +kernel
theorem dX6_make_2 : decode cX6_make 2 = .ok (.invokevirtual 23, 3) := by decide +kernel
theorem dX6_make_5 : decode cX6_make 5 = .ok (.iload_n 1, 1) := by decide +kernel
theorem dX6_make_6 : decode cX6_make 6 = .ok (.tableswitch 122 0 5 #[38, 49, 67, 83, 101, 111], 38) := by decide +kernel
theorem dX6_make_44 : decode cX6_make 44 = .ok (.aload_n 0, 1) := by decide +kernel
theorem dX6_make_45 : decode cX6_make 45 = .ok (.aload_n 2, 1) := by decide +kernel
theorem dX6_make_46 : decode cX6_make 46 = .ok (.aload_n 3, 1) := by decide +kernel
theorem dX6_make_47 : decode cX6_make 47 = .ok (.aload 4, 2) := by decide +kernel
theorem dX6_make_49 : decode cX6_make 49 = .ok (.invokevirtual 26, 3) := by decide +kernel
theorem dX6_make_52 : decode cX6_make 52 = .ok (.goto 76, 3) := by decide +kernel
theorem dX6_make_55 : decode cX6_make 55 = .ok (.aload_n 0, 1) := by decide +kernel
theorem dX6_make_56 : decode cX6_make 56 = .ok (.aload_n 2, 1) := by decide +kernel
theorem dX6_make_57 : decode cX6_make 57 = .ok (.aload_n 3, 1) := by decide +kernel
theorem dX6_make_58 : decode cX6_make 58 = .ok (.aload 4, 2) := by decide +kernel
theorem dX6_make_60 : decode cX6_make 60 = .ok (.invokevirtual 26, 3) := by decide +kernel
theorem dX6_make_63 : decode cX6_make 63 = .ok (.aload_n 0, 1) := by decide +kernel
theorem dX6_make_64 : decode cX6_make 64 = .ok (.aload_n 2, 1) := by decide +kernel
theorem dX6_make_65 : decode cX6_make 65 = .ok (.aload 4, 2) := by decide +kernel
theorem dX6_make_67 : decode cX6_make 67 = .ok (.invokevirtual 30, 3) := by decide +kernel
theorem dX6_make_70 : decode cX6_make 70 = .ok (.goto 58, 3) := by decide +kernel
theorem dX6_make_73 : decode cX6_make 73 = .ok (.aload 4, 2) := by decide +kernel
theorem dX6_make_75 : decode cX6_make 75 = .ok (.aload_n 3, 1) := by decide +kernel
theorem dX6_make_76 : decode cX6_make 76 = .ok (.invokevirtual 34, 3) := by decide +kernel
theorem dX6_make_79 : decode cX6_make 79 = .ok (.aload_n 0, 1) := by decide +kernel
theorem dX6_make_80 : decode cX6_make 80 = .ok (.aload_n 2, 1) := by decide +kernel
theorem dX6_make_81 : decode cX6_make 81 = .ok (.aload 4, 2) := by decide +kernel
theorem dX6_make_83 : decode cX6_make 83 = .ok (.invokevirtual 38, 3) := by decide +kernel
theorem dX6_make_86 : decode cX6_make 86 = .ok (.goto 42, 3) := by decide +kernel
theorem dX6_make_89 : decode cX6_make 89 = .ok (.aload_n 0, 1) := by decide +kernel
theorem dX6_make_90 : decode cX6_make 90 = .ok (.aload_n 2, 1) := by decide +kernel
theorem dX6_make_91 : decode cX6_make 91 = .ok (.aload_n 3, 1) := by decide +kernel
theorem dX6_make_92 : decode cX6_make 92 = .ok (.aload 4, 2) := by decide +kernel
theorem dX6_make_94 : decode cX6_make 94 = .ok (.invokevirtual 26, 3) := by decide +kernel
theorem dX6_make_97 : decode cX6_make 97 = .ok (.aload_n 0, 1) := by decide +kernel
theorem dX6_make_98 : decode cX6_make 98 = .ok (.aload_n 2, 1) := by decide +kernel
theorem dX6_make_99 : decode cX6_make 99 = .ok (.aload 4, 2) := by decide +kernel
theorem dX6_make_101 : decode cX6_make 101 = .ok (.invokevirtual 41, 3) := by decide +kernel
theorem dX6_make_104 : decode cX6_make 104 = .ok (.goto 24, 3) := by decide +kernel
theorem dX6_make_107 : decode cX6_make 107 = .ok (.aload_n 0, 1) := by decide +kernel
theorem dX6_make_108 : decode cX6_make 108 = .ok (.aload_n 3, 1) := by decide +kernel
theorem dX6_make_109 : decode cX6_make 109 = .ok (.aload 4, 2) := by decide +kernel
theorem dX6_make_111 : decode cX6_make 111 = .ok (.invokevirtual 44, 3) := by decide +kernel
theorem dX6_make_114 : decode cX6_make 114 = .ok (.goto 14, 3) := by decide +kernel
theorem dX6_make_117 : decode cX6_make 117 = .ok (.aload_n 0, 1) := by decide +kernel
theorem dX6_make_118 : decode cX6_make 118 = .ok (.aload_n 2, 1) := by decide +kernel
theorem dX6_make_119 : decode cX6_make 119 = .ok (.aload_n 3, 1) := by decide +kernel
theorem dX6_make_120 : decode cX6_make 120 = .ok (.aload 4, 2) := by decide +kernel
theorem dX6_make_122 : decode cX6_make 122 = .ok (.invokevirtual 48, 3) := by decide +kernel
theorem dX6_make_125 : decode cX6_make 125 = .ok (.goto 3, 3) := by decide +kernel
theorem dX6_make_128 : decode cX6_make 128 = .ok (.return_, 1) := by decide +kernel
theorem dX6_makeOfBoth_0 : decode cX6_makeOfBoth 0 = .ok (.aload_n 0, 1) := by decide +kernel
theorem dX6_makeOfBoth_1 : decode cX6_makeOfBoth 1 = .ok (.getfield 14, 3) := by decide +kernel
theorem dX6_makeOfBoth_4 : decode cX6_makeOfBoth 4 = .ok (.aload_n 3, 1) := by decide +kernel
theorem dX6_makeOfBoth_5 : decode cX6_makeOfBoth 5 = .ok (.invokevirtual 51, 3) := by decide +kernel
theorem dX6_makeOfBoth_8 : decode cX6_makeOfBoth 8 = .ok (.aload_n 0, 1) := by decide +kernel
theorem dX6_makeOfBoth_9 : decode cX6_makeOfBoth 9 = .ok (.getfield 14, 3) := by decide +kernel
theorem dX6_makeOfBoth_12 : decode cX6_makeOfBoth 12 = .ok (.aload 4, 2) := by decide +kernel
theorem dX6_makeOfBoth_14 : decode cX6_makeOfBoth 14 = .ok (.invokevirtual 34, 3) := by decide +kernel
theorem dX6_makeOfBoth_17 : decode cX6_makeOfBoth 17 = .ok (.aload_n 0, 1) := by decide +kernel
theorem dX6_makeOfBoth_18 : decode cX6_makeOfBoth 18 = .ok (.iload_n 1, 1) := by decide +kernel
theorem dX6_makeOfBoth_19 : decode cX6_makeOfBoth 19 = .ok (.aload_n 2, 1) := by decide +kernel
theorem dX6_makeOfBoth_20 : decode cX6_makeOfBoth 20 = .ok (.aload_n 0, 1) := by decide +kernel
theorem dX6_makeOfBoth_21 : decode cX6_makeOfBoth 21 = .ok (.getfield 14, 3) := by decide +kernel
theorem dX6_makeOfBoth_24 : decode cX6_makeOfBoth 24 = .ok (.aload 5, 2) := by decide +kernel
theorem dX6_makeOfBoth_26 : decode cX6_makeOfBoth 26 = .ok (.invokevirtual 54, 3) := by decide +kernel
theorem dX6_makeOfBoth_29 : decode cX6_makeOfBoth 29 = .ok (.return_, 1) := by decide +kernel
theorem dX6_goThrough_0 : decode cX6_goThrough 0 = .ok (.iconst 0, 1) := by decide +kernel
theorem dX6_goThrough_1 : decode cX6_goThrough 1 = .ok (.istore 4, 2) := by decide +kernel
theorem dX6_goThrough_3 : decode cX6_goThrough 3 = .ok (.iload 4, 2) := by decide +kernel
theorem dX6_goThrough_5 : decode cX6_goThrough 5 = .ok (.aload_n 1, 1) := by decide +kernel
theorem dX6_goThrough_6 : decode cX6_goThrough 6 = .ok (.invokevirtual 58, 3) := by decide +kernel
theorem dX6_goThrough_9 : decode cX6_goThrough 9 = .ok (.if_icmp .ge 33, 3) := by decide +kernel
theorem dX6_goThrough_12 : decode cX6_goThrough 12 = .ok (.aload_n 0, 1) := by decide +kernel
theorem dX6_goThrough_13 : decode cX6_goThrough 13 = .ok (.aload_n 1, 1) := by decide +kernel
theorem dX6_goThrough_14 : decode cX6_goThrough 14 = .ok (.iload 4, 2) := by decide +kernel
theorem dX6_goThrough_16 : decode cX6_goThrough 16 = .ok (.invokevirtual 62, 3) := by decide +kernel
theorem dX6_goThrough_19 : decode cX6_goThrough 19 = .ok (.aload_n 2, 1) := by decide +kernel
theorem dX6_goThrough_20 : decode cX6_goThrough 20 = .ok (.aload_n 3, 1) := by decide +kernel
theorem dX6_goThrough_21 : decode cX6_goThrough 21 = .ok (.aload_n 0, 1) := by decide +kernel
theorem dX6_goThrough_22 : decode cX6_goThrough 22 = .ok (.getfield 20, 3) := by decide +kernel
theorem dX6_goThrough_25 : decode cX6_goThrough 25 = .ok (.invokevirtual 54, 3) := by decide +kernel
theorem dX6_goThrough_28 : decode cX6_goThrough 28 = .ok (.aload_n 3, 1) := by decide +kernel
theorem dX6_goThrough_29 : decode cX6_goThrough 29 = .ok (.aload_n 0, 1) := by decide +kernel
theorem dX6_goThrough_30 : decode cX6_goThrough 30 = .ok (.getfield 20, 3) := by decide +kernel
theorem dX6_goThrough_33 : decode cX6_goThrough 33 = .ok (.invokevirtual 51, 3) := by decide +kernel
theorem dX6_goThrough_36 : decode cX6_goThrough 36 = .ok (.iinc 4 1, 3) := by decide +kernel
theorem dX6_goThrough_39 : decode cX6_goThrough 39 = .ok (.goto (-36), 3) := by decide +kernel
theorem dX6_goThrough_42 : decode cX6_goThrough 42 = .ok (.return_, 1) := by decide +kernel
theorem dX6_isSorted_0 : decode cX6_isSorted 0 = .ok (.iconst 1, 1) := by decide +kernel
theorem dX6_isSorted_1 : decode cX6_isSorted 1 = .ok (.istore_n 3, 1) := by decide +kernel
theorem dX6_isSorted_2 : decode cX6_isSorted 2 = .ok (.iload_n 3, 1) := by decide +kernel
theorem dX6_isSorted_3 : decode cX6_isSorted 3 = .ok (.aload_n 2, 1) := by decide +kernel
theorem dX6_isSorted_4 : decode cX6_isSorted 4 = .ok (.invokevirtual 58, 3) := by decide +kernel
theorem dX6_isSorted_7 : decode cX6_isSorted 7 = .ok (.if_icmp .ge 47, 3) := by decide +kernel
theorem dX6_isSorted_10 : decode cX6_isSorted 10 = .ok (.aload_n 2, 1) := by decide +kernel
theorem dX6_isSorted_11 : decode cX6_isSorted 11 = .ok (.iload_n 3, 1) := by decide +kernel
theorem dX6_isSorted_12 : decode cX6_isSorted 12 = .ok (.invokevirtual 62, 3) := by decide +kernel
theorem dX6_isSorted_15 : decode cX6_isSorted 15 = .ok (.istore 4, 2) := by decide +kernel
theorem dX6_isSorted_17 : decode cX6_isSorted 17 = .ok (.aload_n 1, 1) := by decide +kernel
theorem dX6_isSorted_18 : decode cX6_isSorted 18 = .ok (.iload 4, 2) := by decide +kernel
theorem dX6_isSorted_20 : decode cX6_isSorted 20 = .ok (.invokevirtual 66, 3) := by decide +kernel
theorem dX6_isSorted_23 : decode cX6_isSorted 23 = .ok (.ifCond .ne 25, 3) := by decide +kernel
theorem dX6_isSorted_26 : decode cX6_isSorted 26 = .ok (.aload_n 1, 1) := by decide +kernel
theorem dX6_isSorted_27 : decode cX6_isSorted 27 = .ok (.aload_n 2, 1) := by decide +kernel
theorem dX6_isSorted_28 : decode cX6_isSorted 28 = .ok (.iload_n 3, 1) := by decide +kernel
theorem dX6_isSorted_29 : decode cX6_isSorted 29 = .ok (.iconst 1, 1) := by decide +kernel
theorem dX6_isSorted_30 : decode cX6_isSorted 30 = .ok (.isub, 1) := by decide +kernel
theorem dX6_isSorted_31 : decode cX6_isSorted 31 = .ok (.invokevirtual 62, 3) := by decide +kernel
theorem dX6_isSorted_34 : decode cX6_isSorted 34 = .ok (.invokevirtual 72, 3) := by decide +kernel
theorem dX6_isSorted_37 : decode cX6_isSorted 37 = .ok (.aload_n 1, 1) := by decide +kernel
theorem dX6_isSorted_38 : decode cX6_isSorted 38 = .ok (.iload 4, 2) := by decide +kernel
theorem dX6_isSorted_40 : decode cX6_isSorted 40 = .ok (.invokevirtual 72, 3) := by decide +kernel
theorem dX6_isSorted_43 : decode cX6_isSorted 43 = .ok (.if_icmp .le 5, 3) := by decide +kernel
theorem dX6_isSorted_46 : decode cX6_isSorted 46 = .ok (.iconst 0, 1) := by decide +kernel
theorem dX6_isSorted_47 : decode cX6_isSorted 47 = .ok (.ireturn, 1) := by decide +kernel
theorem dX6_isSorted_48 : decode cX6_isSorted 48 = .ok (.iinc 3 1, 3) := by decide +kernel
theorem dX6_isSorted_51 : decode cX6_isSorted 51 = .ok (.goto (-49), 3) := by decide +kernel
theorem dX6_isSorted_54 : decode cX6_isSorted 54 = .ok (.iconst 1, 1) := by decide +kernel
theorem dX6_isSorted_55 : decode cX6_isSorted 55 = .ok (.ireturn, 1) := by decide +kernel
theorem dX6_takeApart_0 : decode cX6_takeApart 0 = .ok (.iconst 0, 1) := by decide +kernel
theorem dX6_takeApart_1 : decode cX6_takeApart 1 = .ok (.istore 4, 2) := by decide +kernel
theorem dX6_takeApart_3 : decode cX6_takeApart 3 = .ok (.iload 4, 2) := by decide +kernel
theorem dX6_takeApart_5 : decode cX6_takeApart 5 = .ok (.aload_n 2, 1) := by decide +kernel
theorem dX6_takeApart_6 : decode cX6_takeApart 6 = .ok (.invokevirtual 58, 3) := by decide +kernel
theorem dX6_takeApart_9 : decode cX6_takeApart 9 = .ok (.if_icmp .ge 50, 3) := by decide +kernel
theorem dX6_takeApart_12 : decode cX6_takeApart 12 = .ok (.aload_n 2, 1) := by decide +kernel
theorem dX6_takeApart_13 : decode cX6_takeApart 13 = .ok (.iload 4, 2) := by decide +kernel
theorem dX6_takeApart_15 : decode cX6_takeApart 15 = .ok (.invokevirtual 62, 3) := by decide +kernel
theorem dX6_takeApart_18 : decode cX6_takeApart 18 = .ok (.istore 5, 2) := by decide +kernel
theorem dX6_takeApart_20 : decode cX6_takeApart 20 = .ok (.iconst 0, 1) := by decide +kernel
theorem dX6_takeApart_21 : decode cX6_takeApart 21 = .ok (.istore 6, 2) := by decide +kernel
theorem dX6_takeApart_23 : decode cX6_takeApart 23 = .ok (.iload 6, 2) := by decide +kernel
theorem dX6_takeApart_25 : decode cX6_takeApart 25 = .ok (.aload_n 1, 1) := by decide +kernel
theorem dX6_takeApart_26 : decode cX6_takeApart 26 = .ok (.iload 5, 2) := by decide +kernel
theorem dX6_takeApart_28 : decode cX6_takeApart 28 = .ok (.invokevirtual 75, 3) := by decide +kernel
theorem dX6_takeApart_31 : decode cX6_takeApart 31 = .ok (.if_icmp .ge 22, 3) := by decide +kernel
theorem dX6_takeApart_34 : decode cX6_takeApart 34 = .ok (.aload_n 3, 1) := by decide +kernel
theorem dX6_takeApart_35 : decode cX6_takeApart 35 = .ok (.aload_n 1, 1) := by decide +kernel
theorem dX6_takeApart_36 : decode cX6_takeApart 36 = .ok (.iload 5, 2) := by decide +kernel
theorem dX6_takeApart_38 : decode cX6_takeApart 38 = .ok (.iload 6, 2) := by decide +kernel
theorem dX6_takeApart_40 : decode cX6_takeApart 40 = .ok (.invokevirtual 78, 3) := by decide +kernel
theorem dX6_takeApart_43 : decode cX6_takeApart 43 = .ok (.invokevirtual 82, 3) := by decide +kernel
theorem dX6_takeApart_46 : decode cX6_takeApart 46 = .ok (.pop, 1) := by decide +kernel
theorem dX6_takeApart_47 : decode cX6_takeApart 47 = .ok (.iinc 6 1, 3) := by decide +kernel
theorem dX6_takeApart_50 : decode cX6_takeApart 50 = .ok (.goto (-27), 3) := by decide +kernel
theorem dX6_takeApart_53 : decode cX6_takeApart 53 = .ok (.iinc 4 1, 3) := by decide +kernel
theorem dX6_takeApart_56 : decode cX6_takeApart 56 = .ok (.goto (-53), 3) := by decide +kernel
theorem dX6_takeApart_59 : decode cX6_takeApart 59 = .ok (.aload_n 0, 1) := by decide +kernel
theorem dX6_takeApart_60 : decode cX6_takeApart 60 = .ok (.aload_n 1, 1) := by decide +kernel
theorem dX6_takeApart_61 : decode cX6_takeApart 61 = .ok (.aload_n 3, 1) := by decide +kernel
theorem dX6_takeApart_62 : decode cX6_takeApart 62 = .ok (.invokevirtual 38, 3) := by decide +kernel
theorem dX6_takeApart_65 : decode cX6_takeApart 65 = .ok (.return_, 1) := by decide +kernel
theorem dX6_sort_0 : decode cX6_sort 0 = .ok (.iconst 1, 1) := by decide +kernel
theorem dX6_sort_1 : decode cX6_sort 1 = .ok (.istore_n 3, 1) := by decide +kernel
theorem dX6_sort_2 : decode cX6_sort 2 = .ok (.iload_n 3, 1) := by decide +kernel
theorem dX6_sort_3 : decode cX6_sort 3 = .ok (.aload_n 2, 1) := by decide +kernel
theorem dX6_sort_4 : decode cX6_sort 4 = .ok (.invokevirtual 58, 3) := by decide +kernel
theorem dX6_sort_7 : decode cX6_sort 7 = .ok (.if_icmp .ge 66, 3) := by decide +kernel
theorem dX6_sort_10 : decode cX6_sort 10 = .ok (.aload_n 1, 1) := by decide +kernel
theorem dX6_sort_11 : decode cX6_sort 11 = .ok (.aload_n 2, 1) := by decide +kernel
theorem dX6_sort_12 : decode cX6_sort 12 = .ok (.iload_n 3, 1) := by decide +kernel
theorem dX6_sort_13 : decode cX6_sort 13 = .ok (.invokevirtual 62, 3) := by decide +kernel
theorem dX6_sort_16 : decode cX6_sort 16 = .ok (.invokevirtual 72, 3) := by decide +kernel
theorem dX6_sort_19 : decode cX6_sort 19 = .ok (.istore 4, 2) := by decide +kernel
theorem dX6_sort_21 : decode cX6_sort 21 = .ok (.iload 4, 2) := by decide +kernel
theorem dX6_sort_23 : decode cX6_sort 23 = .ok (.ifCond .ne 7, 3) := by decide +kernel
theorem dX6_sort_26 : decode cX6_sort 26 = .ok (.iconst 0, 1) := by decide +kernel
theorem dX6_sort_27 : decode cX6_sort 27 = .ok (.goto 4, 3) := by decide +kernel
theorem dX6_sort_30 : decode cX6_sort 30 = .ok (.iload_n 3, 1) := by decide +kernel
theorem dX6_sort_31 : decode cX6_sort 31 = .ok (.istore 5, 2) := by decide +kernel
theorem dX6_sort_33 : decode cX6_sort 33 = .ok (.iload 5, 2) := by decide +kernel
theorem dX6_sort_35 : decode cX6_sort 35 = .ok (.ifCond .le 32, 3) := by decide +kernel
theorem dX6_sort_38 : decode cX6_sort 38 = .ok (.aload_n 1, 1) := by decide +kernel
theorem dX6_sort_39 : decode cX6_sort 39 = .ok (.aload_n 2, 1) := by decide +kernel
theorem dX6_sort_40 : decode cX6_sort 40 = .ok (.iload 5, 2) := by decide +kernel
theorem dX6_sort_42 : decode cX6_sort 42 = .ok (.iconst 1, 1) := by decide +kernel
theorem dX6_sort_43 : decode cX6_sort 43 = .ok (.isub, 1) := by decide +kernel
theorem dX6_sort_44 : decode cX6_sort 44 = .ok (.invokevirtual 62, 3) := by decide +kernel
theorem dX6_sort_47 : decode cX6_sort 47 = .ok (.invokevirtual 72, 3) := by decide +kernel
theorem dX6_sort_50 : decode cX6_sort 50 = .ok (.iload 4, 2) := by decide +kernel
theorem dX6_sort_52 : decode cX6_sort 52 = .ok (.if_icmp .le 15, 3) := by decide +kernel
theorem dX6_sort_55 : decode cX6_sort 55 = .ok (.iinc 5 (-1), 3) := by decide +kernel
theorem dX6_sort_58 : decode cX6_sort 58 = .ok (.aload_n 2, 1) := by decide +kernel
theorem dX6_sort_59 : decode cX6_sort 59 = .ok (.iload 5, 2) := by decide +kernel
theorem dX6_sort_61 : decode cX6_sort 61 = .ok (.invokevirtual 85, 3) := by decide +kernel
theorem dX6_sort_64 : decode cX6_sort 64 = .ok (.goto (-31), 3) := by decide +kernel
theorem dX6_sort_67 : decode cX6_sort 67 = .ok (.iinc 3 1, 3) := by decide +kernel
theorem dX6_sort_70 : decode cX6_sort 70 = .ok (.goto (-68), 3) := by decide +kernel
theorem dX6_sort_73 : decode cX6_sort 73 = .ok (.return_, 1) := by decide +kernel
theorem dX6_join_0 : decode cX6_join 0 = .ok (.aload_n 2, 1) := by decide +kernel
theorem dX6_join_1 : decode cX6_join 1 = .ok (.invokevirtual 58, 3) := by decide +kernel
theorem dX6_join_4 : decode cX6_join 4 = .ok (.istore_n 3, 1) := by decide +kernel
theorem dX6_join_5 : decode cX6_join 5 = .ok (.bipush (-9), 2) := by decide +kernel
theorem dX6_join_7 : decode cX6_join 7 = .ok (.istore 4, 2) := by decide +kernel
theorem dX6_join_9 : decode cX6_join 9 = .ok (.bipush (-9), 2) := by decide +kernel
theorem dX6_join_11 : decode cX6_join 11 = .ok (.istore 5, 2) := by decide +kernel
theorem dX6_join_13 : decode cX6_join 13 = .ok (.iconst 0, 1) := by decide +kernel
theorem dX6_join_14 : decode cX6_join 14 = .ok (.istore 6, 2) := by decide +kernel
theorem dX6_join_16 : decode cX6_join 16 = .ok (.iconst 0, 1) := by decide +kernel
theorem dX6_join_17 : decode cX6_join 17 = .ok (.istore 7, 2) := by decide +kernel
theorem dX6_join_19 : decode cX6_join 19 = .ok (.iload 7, 2) := by decide +kernel
theorem dX6_join_21 : decode cX6_join 21 = .ok (.iload_n 3, 1) := by decide +kernel
theorem dX6_join_22 : decode cX6_join 22 = .ok (.if_icmp .ge 124, 3) := by decide +kernel
theorem dX6_join_25 : decode cX6_join 25 = .ok (.aload_n 2, 1) := by decide +kernel
theorem dX6_join_26 : decode cX6_join 26 = .ok (.iload 7, 2) := by decide +kernel
theorem dX6_join_28 : decode cX6_join 28 = .ok (.invokevirtual 62, 3) := by decide +kernel
theorem dX6_join_31 : decode cX6_join 31 = .ok (.istore 8, 2) := by decide +kernel
theorem dX6_join_33 : decode cX6_join 33 = .ok (.aload_n 1, 1) := by decide +kernel
theorem dX6_join_34 : decode cX6_join 34 = .ok (.iload 8, 2) := by decide +kernel
theorem dX6_join_36 : decode cX6_join 36 = .ok (.invokevirtual 72, 3) := by decide +kernel
theorem dX6_join_39 : decode cX6_join 39 = .ok (.istore 9, 2) := by decide +kernel
theorem dX6_join_41 : decode cX6_join 41 = .ok (.iload 4, 2) := by decide +kernel
theorem dX6_join_43 : decode cX6_join 43 = .ok (.bipush (-9), 2) := by decide +kernel
theorem dX6_join_45 : decode cX6_join 45 = .ok (.if_icmp .eq 10, 3) := by decide +kernel
theorem dX6_join_48 : decode cX6_join 48 = .ok (.iload 5, 2) := by decide +kernel
theorem dX6_join_50 : decode cX6_join 50 = .ok (.iload 9, 2) := by decide +kernel
theorem dX6_join_52 : decode cX6_join 52 = .ok (.if_icmp .lt 7, 3) := by decide +kernel
theorem dX6_join_55 : decode cX6_join 55 = .ok (.iconst 1, 1) := by decide +kernel
theorem dX6_join_56 : decode cX6_join 56 = .ok (.goto 4, 3) := by decide +kernel
theorem dX6_join_59 : decode cX6_join 59 = .ok (.iconst 0, 1) := by decide +kernel
theorem dX6_join_60 : decode cX6_join 60 = .ok (.istore 10, 2) := by decide +kernel
theorem dX6_join_62 : decode cX6_join 62 = .ok (.iload 10, 2) := by decide +kernel
theorem dX6_join_64 : decode cX6_join 64 = .ok (.ifCond .eq 8, 3) := by decide +kernel
theorem dX6_join_67 : decode cX6_join 67 = .ok (.bipush (-9), 2) := by decide +kernel
theorem dX6_join_69 : decode cX6_join 69 = .ok (.goto 15, 3) := by decide +kernel
theorem dX6_join_72 : decode cX6_join 72 = .ok (.aload_n 1, 1) := by decide +kernel
theorem dX6_join_73 : decode cX6_join 73 = .ok (.aload_n 2, 1) := by decide +kernel
theorem dX6_join_74 : decode cX6_join 74 = .ok (.iload 4, 2) := by decide +kernel
theorem dX6_join_76 : decode cX6_join 76 = .ok (.invokevirtual 62, 3) := by decide +kernel
theorem dX6_join_79 : decode cX6_join 79 = .ok (.iload 8, 2) := by decide +kernel
theorem dX6_join_81 : decode cX6_join 81 = .ok (.invokevirtual 88, 3) := by decide +kernel
theorem dX6_join_84 : decode cX6_join 84 = .ok (.istore 11, 2) := by decide +kernel
theorem dX6_join_86 : decode cX6_join 86 = .ok (.iload 11, 2) := by decide +kernel
theorem dX6_join_88 : decode cX6_join 88 = .ok (.bipush (-9), 2) := by decide +kernel
theorem dX6_join_90 : decode cX6_join 90 = .ok (.if_icmp .eq 14, 3) := by decide +kernel
theorem dX6_join_93 : decode cX6_join 93 = .ok (.aload_n 2, 1) := by decide +kernel
theorem dX6_join_94 : decode cX6_join 94 = .ok (.iload 4, 2) := by decide +kernel
theorem dX6_join_96 : decode cX6_join 96 = .ok (.iload 11, 2) := by decide +kernel
theorem dX6_join_98 : decode cX6_join 98 = .ok (.invokevirtual 91, 3) := by decide +kernel
theorem dX6_join_101 : decode cX6_join 101 = .ok (.goto 39, 3) := by decide +kernel
theorem dX6_join_104 : decode cX6_join 104 = .ok (.aload_n 2, 1) := by decide +kernel
theorem dX6_join_105 : decode cX6_join 105 = .ok (.iload 6, 2) := by decide +kernel
theorem dX6_join_107 : decode cX6_join 107 = .ok (.iload 8, 2) := by decide +kernel
theorem dX6_join_109 : decode cX6_join 109 = .ok (.invokevirtual 91, 3) := by decide +kernel
theorem dX6_join_112 : decode cX6_join 112 = .ok (.iload 9, 2) := by decide +kernel
theorem dX6_join_114 : decode cX6_join 114 = .ok (.ifCond .ne 14, 3) := by decide +kernel
theorem dX6_join_117 : decode cX6_join 117 = .ok (.iload 6, 2) := by decide +kernel
theorem dX6_join_119 : decode cX6_join 119 = .ok (.istore 4, 2) := by decide +kernel
theorem dX6_join_121 : decode cX6_join 121 = .ok (.bipush (-9), 2) := by decide +kernel
theorem dX6_join_123 : decode cX6_join 123 = .ok (.istore 5, 2) := by decide +kernel
theorem dX6_join_125 : decode cX6_join 125 = .ok (.goto 12, 3) := by decide +kernel
theorem dX6_join_128 : decode cX6_join 128 = .ok (.iload 5, 2) := by decide +kernel
theorem dX6_join_130 : decode cX6_join 130 = .ok (.iload 9, 2) := by decide +kernel
theorem dX6_join_132 : decode cX6_join 132 = .ok (.invokestatic 95, 3) := by decide +kernel
theorem dX6_join_135 : decode cX6_join 135 = .ok (.istore 5, 2) := by decide +kernel
theorem dX6_join_137 : decode cX6_join 137 = .ok (.iinc 6 1, 3) := by decide +kernel
theorem dX6_join_140 : decode cX6_join 140 = .ok (.iinc 7 1, 3) := by decide +kernel
theorem dX6_join_143 : decode cX6_join 143 = .ok (.goto (-124), 3) := by decide +kernel
theorem dX6_join_146 : decode cX6_join 146 = .ok (.aload_n 2, 1) := by decide +kernel
theorem dX6_join_147 : decode cX6_join 147 = .ok (.iload 6, 2) := by decide +kernel
theorem dX6_join_149 : decode cX6_join 149 = .ok (.invokevirtual 100, 3) := by decide +kernel
theorem dX6_join_152 : decode cX6_join 152 = .ok (.return_, 1) := by decide +kernel
theorem dX6_dropMarks_0 : decode cX6_dropMarks 0 = .ok (.aload_n 2, 1) := by decide +kernel
theorem dX6_dropMarks_1 : decode cX6_dropMarks 1 = .ok (.invokevirtual 58, 3) := by decide +kernel
theorem dX6_dropMarks_4 : decode cX6_dropMarks 4 = .ok (.istore_n 3, 1) := by decide +kernel
theorem dX6_dropMarks_5 : decode cX6_dropMarks 5 = .ok (.iconst 0, 1) := by decide +kernel
theorem dX6_dropMarks_6 : decode cX6_dropMarks 6 = .ok (.istore 4, 2) := by decide +kernel
theorem dX6_dropMarks_8 : decode cX6_dropMarks 8 = .ok (.iconst 0, 1) := by decide +kernel
theorem dX6_dropMarks_9 : decode cX6_dropMarks 9 = .ok (.istore 5, 2) := by decide +kernel
theorem dX6_dropMarks_11 : decode cX6_dropMarks 11 = .ok (.iload 5, 2) := by decide +kernel
theorem dX6_dropMarks_13 : decode cX6_dropMarks 13 = .ok (.iload_n 3, 1) := by decide +kernel
theorem dX6_dropMarks_14 : decode cX6_dropMarks 14 = .ok (.if_icmp .ge 37, 3) := by decide +kernel
theorem dX6_dropMarks_17 : decode cX6_dropMarks 17 = .ok (.aload_n 2, 1) := by decide +kernel
theorem dX6_dropMarks_18 : decode cX6_dropMarks 18 = .ok (.iload 5, 2) := by decide +kernel
theorem dX6_dropMarks_20 : decode cX6_dropMarks 20 = .ok (.invokevirtual 62, 3) := by decide +kernel
theorem dX6_dropMarks_23 : decode cX6_dropMarks 23 = .ok (.istore 6, 2) := by decide +kernel
theorem dX6_dropMarks_25 : decode cX6_dropMarks 25 = .ok (.aload_n 1, 1) := by decide +kernel
theorem dX6_dropMarks_26 : decode cX6_dropMarks 26 = .ok (.iload 6, 2) := by decide +kernel
theorem dX6_dropMarks_28 : decode cX6_dropMarks 28 = .ok (.invokevirtual 66, 3) := by decide +kernel
theorem dX6_dropMarks_31 : decode cX6_dropMarks 31 = .ok (.ifCond .eq 14, 3) := by decide +kernel
theorem dX6_dropMarks_34 : decode cX6_dropMarks 34 = .ok (.aload_n 2, 1) := by decide +kernel
theorem dX6_dropMarks_35 : decode cX6_dropMarks 35 = .ok (.iload 4, 2) := by decide +kernel
theorem dX6_dropMarks_37 : decode cX6_dropMarks 37 = .ok (.iload 6, 2) := by decide +kernel
theorem dX6_dropMarks_39 : decode cX6_dropMarks 39 = .ok (.invokevirtual 91, 3) := by decide +kernel
theorem dX6_dropMarks_42 : decode cX6_dropMarks 42 = .ok (.iinc 4 1, 3) := by decide +kernel
theorem dX6_dropMarks_45 : decode cX6_dropMarks 45 = .ok (.iinc 5 1, 3) := by decide +kernel
theorem dX6_dropMarks_48 : decode cX6_dropMarks 48 = .ok (.goto (-37), 3) := by decide +kernel
theorem dX6_dropMarks_51 : decode cX6_dropMarks 51 = .ok (.aload_n 2, 1) := by decide +kernel
theorem dX6_dropMarks_52 : decode cX6_dropMarks 52 = .ok (.iload 4, 2) := by decide +kernel
theorem dX6_dropMarks_54 : decode cX6_dropMarks 54 = .ok (.invokevirtual 100, 3) := by decide +kernel
theorem dX6_dropMarks_57 : decode cX6_dropMarks 57 = .ok (.return_, 1) := by decide +kernel
theorem dX6_turn_0 : decode cX6_turn 0 = .ok (.aload_n 1, 1) := by decide +kernel
theorem dX6_turn_1 : decode cX6_turn 1 = .ok (.invokevirtual 58, 3) := by decide +kernel
theorem dX6_turn_4 : decode cX6_turn 4 = .ok (.iconst 1, 1) := by decide +kernel
theorem dX6_turn_5 : decode cX6_turn 5 = .ok (.isub, 1) := by decide +kernel
theorem dX6_turn_6 : decode cX6_turn 6 = .ok (.istore_n 3, 1) := by decide +kernel
theorem dX6_turn_7 : decode cX6_turn 7 = .ok (.iload_n 3, 1) := by decide +kernel
theorem dX6_turn_8 : decode cX6_turn 8 = .ok (.ifCond .lt 19, 3) := by decide +kernel
theorem dX6_turn_11 : decode cX6_turn 11 = .ok (.aload_n 2, 1) := by decide +kernel
theorem dX6_turn_12 : decode cX6_turn 12 = .ok (.aload_n 1, 1) := by decide +kernel
theorem dX6_turn_13 : decode cX6_turn 13 = .ok (.iload_n 3, 1) := by decide +kernel
theorem dX6_turn_14 : decode cX6_turn 14 = .ok (.invokevirtual 62, 3) := by decide +kernel
theorem dX6_turn_17 : decode cX6_turn 17 = .ok (.invokevirtual 82, 3) := by decide +kernel
theorem dX6_turn_20 : decode cX6_turn 20 = .ok (.pop, 1) := by decide +kernel
theorem dX6_turn_21 : decode cX6_turn 21 = .ok (.iinc 3 (-1), 3) := by decide +kernel
theorem dX6_turn_24 : decode cX6_turn 24 = .ok (.goto (-17), 3) := by decide +kernel
theorem dX6_turn_27 : decode cX6_turn 27 = .ok (.return_, 1) := by decide +kernel
theorem dX6_takeFirst_0 : decode cX6_takeFirst 0 = .ok (.iconst 0, 1) := by decide +kernel
theorem dX6_takeFirst_1 : decode cX6_takeFirst 1 = .ok (.istore 4, 2) := by decide +kernel
theorem dX6_takeFirst_3 : decode cX6_takeFirst 3 = .ok (.iconst 0, 1) := by decide +kernel
theorem dX6_takeFirst_4 : decode cX6_takeFirst 4 = .ok (.istore 5, 2) := by decide +kernel
theorem dX6_takeFirst_6 : decode cX6_takeFirst 6 = .ok (.iload 5, 2) := by decide +kernel
theorem dX6_takeFirst_8 : decode cX6_takeFirst 8 = .ok (.aload_n 2, 1) := by decide +kernel
theorem dX6_takeFirst_9 : decode cX6_takeFirst 9 = .ok (.invokevirtual 58, 3) := by decide +kernel
theorem dX6_takeFirst_12 : decode cX6_takeFirst 12 = .ok (.if_icmp .ge 43, 3) := by decide +kernel
theorem dX6_takeFirst_15 : decode cX6_takeFirst 15 = .ok (.aload_n 2, 1) := by decide +kernel
theorem dX6_takeFirst_16 : decode cX6_takeFirst 16 = .ok (.iload 5, 2) := by decide +kernel
theorem dX6_takeFirst_18 : decode cX6_takeFirst 18 = .ok (.invokevirtual 62, 3) := by decide +kernel
theorem dX6_takeFirst_21 : decode cX6_takeFirst 21 = .ok (.istore 6, 2) := by decide +kernel
theorem dX6_takeFirst_23 : decode cX6_takeFirst 23 = .ok (.aload_n 1, 1) := by decide +kernel
theorem dX6_takeFirst_24 : decode cX6_takeFirst 24 = .ok (.iload 6, 2) := by decide +kernel
theorem dX6_takeFirst_26 : decode cX6_takeFirst 26 = .ok (.invokevirtual 66, 3) := by decide +kernel
theorem dX6_takeFirst_29 : decode cX6_takeFirst 29 = .ok (.ifCond .eq 6, 3) := by decide +kernel
theorem dX6_takeFirst_32 : decode cX6_takeFirst 32 = .ok (.iinc 4 1, 3) := by decide +kernel
theorem dX6_takeFirst_35 : decode cX6_takeFirst 35 = .ok (.iload 4, 2) := by decide +kernel
theorem dX6_takeFirst_37 : decode cX6_takeFirst 37 = .ok (.iconst 1, 1) := by decide +kernel
theorem dX6_takeFirst_38 : decode cX6_takeFirst 38 = .ok (.if_icmp .le 4, 3) := by decide +kernel
theorem dX6_takeFirst_41 : decode cX6_takeFirst 41 = .ok (.return_, 1) := by decide +kernel
theorem dX6_takeFirst_42 : decode cX6_takeFirst 42 = .ok (.aload_n 3, 1) := by decide +kernel
theorem dX6_takeFirst_43 : decode cX6_takeFirst 43 = .ok (.iload 6, 2) := by decide +kernel
theorem dX6_takeFirst_45 : decode cX6_takeFirst 45 = .ok (.invokevirtual 82, 3) := by decide +kernel
theorem dX6_takeFirst_48 : decode cX6_takeFirst 48 = .ok (.pop, 1) := by decide +kernel
theorem dX6_takeFirst_49 : decode cX6_takeFirst 49 = .ok (.iinc 5 1, 3) := by decide +kernel
theorem dX6_takeFirst_52 : decode cX6_takeFirst 52 = .ok (.goto (-46), 3) := by decide +kernel
theorem dX6_takeFirst_55 : decode cX6_takeFirst 55 = .ok (.return_, 1) := by decide +kernel
theorem dX7_init_0 : decode cX7_init 0 = .ok (.aload_n 0, 1) := by decide +kernel
theorem dX7_init_1 : decode cX7_init 1 = .ok (.invokespecial 3, 3) := by decide +kernel
theorem dX7_init_4 : decode cX7_init 4 = .ok (.aload_n 0, 1) := by decide +kernel
theorem dX7_init_5 : decode cX7_init 5 = .ok (.sipush 129, 3) := by decide +kernel
theorem dX7_init_8 : decode cX7_init 8 = .ok (.newarray .long, 2) := by decide +kernel
theorem dX7_init_10 : decode cX7_init 10 = .ok (.putfield 9, 3) := by decide +kernel
theorem dX7_init_13 : decode cX7_init 13 = .ok (.return_, 1) := by decide +kernel
theorem dX7_waysToSpell_0 : decode cX7_waysToSpell 0 = .ok (.aload_n 1, 1) := by decide +kernel
theorem dX7_waysToSpell_1 : decode cX7_waysToSpell 1 = .ok (.invokevirtual 15, 3) := by decide +kernel
theorem dX7_waysToSpell_4 : decode cX7_waysToSpell 4 = .ok (.sipush 128, 3) := by decide +kernel
theorem dX7_waysToSpell_7 : decode cX7_waysToSpell 7 = .ok (.invokestatic 21, 3) := by decide +kernel
theorem dX7_waysToSpell_10 : decode cX7_waysToSpell 10 = .ok (.istore_n 3, 1) := by decide +kernel
theorem dX7_waysToSpell_11 : decode cX7_waysToSpell 11 = .ok (.aload_n 0, 1) := by decide +kernel
theorem dX7_waysToSpell_12 : decode cX7_waysToSpell 12 = .ok (.getfield 9, 3) := by decide +kernel
theorem dX7_waysToSpell_15 : decode cX7_waysToSpell 15 = .ok (.iconst 0, 1) := by decide +kernel
theorem dX7_waysToSpell_16 : decode cX7_waysToSpell 16 = .ok (.lconst 1, 1) := by decide +kernel
theorem dX7_waysToSpell_17 : decode cX7_waysToSpell 17 = .ok (.lastore, 1) := by decide +kernel
theorem dX7_waysToSpell_18 : decode cX7_waysToSpell 18 = .ok (.iconst 1, 1) := by decide +kernel
theorem dX7_waysToSpell_19 : decode cX7_waysToSpell 19 = .ok (.istore 4, 2) := by decide +kernel
theorem dX7_waysToSpell_21 : decode cX7_waysToSpell 21 = .ok (.iload 4, 2) := by decide +kernel
theorem dX7_waysToSpell_23 : decode cX7_waysToSpell 23 = .ok (.iload_n 3, 1) := by decide +kernel
theorem dX7_waysToSpell_24 : decode cX7_waysToSpell 24 = .ok (.if_icmp .gt 24, 3) := by decide +kernel
theorem dX7_waysToSpell_27 : decode cX7_waysToSpell 27 = .ok (.aload_n 0, 1) := by decide +kernel
theorem dX7_waysToSpell_28 : decode cX7_waysToSpell 28 = .ok (.getfield 9, 3) := by decide +kernel
theorem dX7_waysToSpell_31 : decode cX7_waysToSpell 31 = .ok (.iload 4, 2) := by decide +kernel
theorem dX7_waysToSpell_33 : decode cX7_waysToSpell 33 = .ok (.aload_n 0, 1) := by decide +kernel
theorem dX7_waysToSpell_34 : decode cX7_waysToSpell 34 = .ok (.iload 4, 2) := by decide +kernel
theorem dX7_waysToSpell_36 : decode cX7_waysToSpell 36 = .ok (.aload_n 1, 1) := by decide +kernel
theorem dX7_waysToSpell_37 : decode cX7_waysToSpell 37 = .ok (.aload_n 2, 1) := by decide +kernel
theorem dX7_waysToSpell_38 : decode cX7_waysToSpell 38 = .ok (.invokevirtual 27, 3) := by decide +kernel
theorem dX7_waysToSpell_41 : decode cX7_waysToSpell 41 = .ok (.lastore, 1) := by decide +kernel
theorem dX7_waysToSpell_42 : decode cX7_waysToSpell 42 = .ok (.iinc 4 1, 3) := by decide +kernel
theorem dX7_waysToSpell_45 : decode cX7_waysToSpell 45 = .ok (.goto (-24), 3) := by decide +kernel
theorem dX7_waysToSpell_48 : decode cX7_waysToSpell 48 = .ok (.iload_n 3, 1) := by decide +kernel
theorem dX7_waysToSpell_49 : decode cX7_waysToSpell 49 = .ok (.ifCond .ge 7, 3) := by decide +kernel
theorem dX7_waysToSpell_52 : decode cX7_waysToSpell 52 = .ok (.lconst 0, 1) := by decide +kernel
theorem dX7_waysToSpell_53 : decode cX7_waysToSpell 53 = .ok (.goto 9, 3) := by decide +kernel
theorem dX7_waysToSpell_56 : decode cX7_waysToSpell 56 = .ok (.aload_n 0, 1) := by decide +kernel
theorem dX7_waysToSpell_57 : decode cX7_waysToSpell 57 = .ok (.getfield 9, 3) := by decide +kernel
theorem dX7_waysToSpell_60 : decode cX7_waysToSpell 60 = .ok (.iload_n 3, 1) := by decide +kernel
theorem dX7_waysToSpell_61 : decode cX7_waysToSpell 61 = .ok (.laload, 1) := by decide +kernel
theorem dX7_waysToSpell_62 : decode cX7_waysToSpell 62 = .ok (.lreturn, 1) := by decide +kernel
theorem dX7_waysUpTo_0 : decode cX7_waysUpTo 0 = .ok (.lconst 0, 1) := by decide +kernel
theorem dX7_waysUpTo_1 : decode cX7_waysUpTo 1 = .ok (.lstore 4, 2) := by decide +kernel
theorem dX7_waysUpTo_3 : decode cX7_waysUpTo 3 = .ok (.iconst 0, 1) := by decide +kernel
theorem dX7_waysUpTo_4 : decode cX7_waysUpTo 4 = .ok (.istore 6, 2) := by decide +kernel
theorem dX7_waysUpTo_6 : decode cX7_waysUpTo 6 = .ok (.iload 6, 2) := by decide +kernel
theorem dX7_waysUpTo_8 : decode cX7_waysUpTo 8 = .ok (.aload_n 3, 1) := by decide +kernel
theorem dX7_waysUpTo_9 : decode cX7_waysUpTo 9 = .ok (.invokevirtual 31, 3) := by decide +kernel
theorem dX7_waysUpTo_12 : decode cX7_waysUpTo 12 = .ok (.if_icmp .ge 64, 3) := by decide +kernel
theorem dX7_waysUpTo_15 : decode cX7_waysUpTo 15 = .ok (.iload_n 1, 1) := by decide +kernel
theorem dX7_waysUpTo_16 : decode cX7_waysUpTo 16 = .ok (.aload_n 3, 1) := by decide +kernel
theorem dX7_waysUpTo_17 : decode cX7_waysUpTo 17 = .ok (.iload 6, 2) := by decide +kernel
theorem dX7_waysUpTo_19 : decode cX7_waysUpTo 19 = .ok (.invokevirtual 36, 3) := by decide +kernel
theorem dX7_waysUpTo_22 : decode cX7_waysUpTo 22 = .ok (.isub, 1) := by decide +kernel
theorem dX7_waysUpTo_23 : decode cX7_waysUpTo 23 = .ok (.istore 7, 2) := by decide +kernel
theorem dX7_waysUpTo_25 : decode cX7_waysUpTo 25 = .ok (.iload 7, 2) := by decide +kernel
theorem dX7_waysUpTo_27 : decode cX7_waysUpTo 27 = .ok (.ifCond .lt 43, 3) := by decide +kernel
theorem dX7_waysUpTo_30 : decode cX7_waysUpTo 30 = .ok (.iload 7, 2) := by decide +kernel
theorem dX7_waysUpTo_32 : decode cX7_waysUpTo 32 = .ok (.aload_n 0, 1) := by decide +kernel
theorem dX7_waysUpTo_33 : decode cX7_waysUpTo 33 = .ok (.getfield 9, 3) := by decide +kernel
theorem dX7_waysUpTo_36 : decode cX7_waysUpTo 36 = .ok (.arraylength, 1) := by decide +kernel
theorem dX7_waysUpTo_37 : decode cX7_waysUpTo 37 = .ok (.if_icmp .ge 33, 3) := by decide +kernel
theorem dX7_waysUpTo_40 : decode cX7_waysUpTo 40 = .ok (.aload_n 3, 1) := by decide +kernel
theorem dX7_waysUpTo_41 : decode cX7_waysUpTo 41 = .ok (.iload 6, 2) := by decide +kernel
theorem dX7_waysUpTo_43 : decode cX7_waysUpTo 43 = .ok (.aload_n 2, 1) := by decide +kernel
theorem dX7_waysUpTo_44 : decode cX7_waysUpTo 44 = .ok (.iload 7, 2) := by decide +kernel
theorem dX7_waysUpTo_46 : decode cX7_waysUpTo 46 = .ok (.invokevirtual 40, 3) := by decide +kernel
theorem dX7_waysUpTo_49 : decode cX7_waysUpTo 49 = .ok (.ifCond .eq 21, 3) := by decide +kernel
theorem dX7_waysUpTo_52 : decode cX7_waysUpTo 52 = .ok (.lload 4, 2) := by decide +kernel
theorem dX7_waysUpTo_54 : decode cX7_waysUpTo 54 = .ok (.aload_n 0, 1) := by decide +kernel
theorem dX7_waysUpTo_55 : decode cX7_waysUpTo 55 = .ok (.getfield 9, 3) := by decide +kernel
theorem dX7_waysUpTo_58 : decode cX7_waysUpTo 58 = .ok (.iload 7, 2) := by decide +kernel
theorem dX7_waysUpTo_60 : decode cX7_waysUpTo 60 = .ok (.laload, 1) := by decide +kernel
theorem dX7_waysUpTo_61 : decode cX7_waysUpTo 61 = .ok (.ladd, 1) := by decide +kernel
theorem dX7_waysUpTo_62 : decode cX7_waysUpTo 62 = .ok (.ldc2_w 44, 3) := by decide +kernel
theorem dX7_waysUpTo_65 : decode cX7_waysUpTo 65 = .ok (.invokestatic 46, 3) := by decide +kernel
theorem dX7_waysUpTo_68 : decode cX7_waysUpTo 68 = .ok (.lstore 4, 2) := by decide +kernel
theorem dX7_waysUpTo_70 : decode cX7_waysUpTo 70 = .ok (.iinc 6 1, 3) := by decide +kernel
theorem dX7_waysUpTo_73 : decode cX7_waysUpTo 73 = .ok (.goto (-67), 3) := by decide +kernel
theorem dX7_waysUpTo_76 : decode cX7_waysUpTo 76 = .ok (.lload 4, 2) := by decide +kernel
theorem dX7_waysUpTo_78 : decode cX7_waysUpTo 78 = .ok (.lreturn, 1) := by decide +kernel
end
section
theorem dX8_init_0 : decode cX8_init 0 = .ok (.aload_n 0, 1) := by decide +kernel
theorem dX8_init_1 : decode cX8_init 1 = .ok (.invokespecial 3, 3) := by decide +kernel
theorem dX8_init_4 : decode cX8_init 4 = .ok (.aload_n 0, 1) := by decide +kernel
theorem dX8_init_5 : decode cX8_init 5 = .ok (.new 9, 3) := by decide +kernel
theorem dX8_init_8 : decode cX8_init 8 = .ok (.dup, 1) := by decide +kernel
theorem dX8_init_9 : decode cX8_init 9 = .ok (.invokespecial 11, 3) := by decide +kernel
theorem dX8_init_12 : decode cX8_init 12 = .ok (.putfield 12, 3) := by decide +kernel
theorem dX8_init_15 : decode cX8_init 15 = .ok (.aload_n 0, 1) := by decide +kernel
theorem dX8_init_16 : decode cX8_init 16 = .ok (.new 16, 3) := by decide +kernel
theorem dX8_init_19 : decode cX8_init 19 = .ok (.dup, 1) := by decide +kernel
theorem dX8_init_20 : decode cX8_init 20 = .ok (.invokespecial 18, 3) := by decide +kernel
theorem dX8_init_23 : decode cX8_init 23 = .ok (.putfield 19, 3) := by decide +kernel
theorem dX8_init_26 : decode cX8_init 26 = .ok (.aload_n 0, 1) := by decide +kernel
theorem dX8_init_27 : decode cX8_init 27 = .ok (.new 16, 3) := by decide +kernel
theorem dX8_init_30 : decode cX8_init 30 = .ok (.dup, 1) := by decide +kernel
theorem dX8_init_31 : decode cX8_init 31 = .ok (.invokespecial 18, 3) := by decide +kernel
theorem dX8_init_34 : decode cX8_init 34 = .ok (.putfield 23, 3) := by decide +kernel
theorem dX8_init_37 : decode cX8_init 37 = .ok (.aload_n 0, 1) := by decide +kernel
theorem dX8_init_38 : decode cX8_init 38 = .ok (.new 26, 3) := by decide +kernel
theorem dX8_init_41 : decode cX8_init 41 = .ok (.dup, 1) := by decide +kernel
theorem dX8_init_42 : decode cX8_init 42 = .ok (.invokespecial 28, 3) := by decide +kernel
theorem dX8_init_45 : decode cX8_init 45 = .ok (.putfield 29, 3) := by decide +kernel
theorem dX8_init_48 : decode cX8_init 48 = .ok (.aload_n 0, 1) := by decide +kernel
theorem dX8_init_49 : decode cX8_init 49 = .ok (.new 33, 3) := by decide +kernel
theorem dX8_init_52 : decode cX8_init 52 = .ok (.dup, 1) := by decide +kernel
theorem dX8_init_53 : decode cX8_init 53 = .ok (.invokespecial 35, 3) := by decide +kernel
theorem dX8_init_56 : decode cX8_init 56 = .ok (.putfield 36, 3) := by decide +kernel
theorem dX8_init_59 : decode cX8_init 59 = .ok (.aload_n 0, 1) := by decide +kernel
theorem dX8_init_60 : decode cX8_init 60 = .ok (.new 40, 3) := by decide +kernel
theorem dX8_init_63 : decode cX8_init 63 = .ok (.dup, 1) := by decide +kernel
theorem dX8_init_64 : decode cX8_init 64 = .ok (.invokespecial 42, 3) := by decide +kernel
theorem dX8_init_67 : decode cX8_init 67 = .ok (.putfield 43, 3) := by decide +kernel
theorem dX8_init_70 : decode cX8_init 70 = .ok (.aload_n 0, 1) := by decide +kernel
theorem dX8_init_71 : decode cX8_init 71 = .ok (.new 47, 3) := by decide +kernel
theorem dX8_init_74 : decode cX8_init 74 = .ok (.dup, 1) := by decide +kernel
theorem dX8_init_75 : decode cX8_init 75 = .ok (.invokespecial 49, 3) := by decide +kernel
theorem dX8_init_78 : decode cX8_init 78 = .ok (.putfield 50, 3) := by decide +kernel
theorem dX8_init_81 : decode cX8_init 81 = .ok (.aload_n 0, 1) := by decide +kernel
theorem dX8_init_82 : decode cX8_init 82 = .ok (.new 54, 3) := by decide +kernel
theorem dX8_init_85 : decode cX8_init 85 = .ok (.dup, 1) := by decide +kernel
theorem dX8_init_86 : decode cX8_init 86 = .ok (.invokespecial 56, 3) := by decide +kernel
theorem dX8_init_89 : decode cX8_init 89 = .ok (.putfield 57, 3) := by decide +kernel
theorem dX8_init_92 : decode cX8_init 92 = .ok (.aload_n 0, 1) := by decide +kernel
theorem dX8_init_93 : decode cX8_init 93 = .ok (.new 61, 3) := by decide +kernel
theorem dX8_init_96 : decode cX8_init 96 = .ok (.dup, 1) := by decide +kernel
theorem dX8_init_97 : decode cX8_init 97 = .ok (.sipush 128, 3) := by decide +kernel
theorem dX8_init_100 : decode cX8_init 100 = .ok (.invokespecial 63, 3) := by decide +kernel
theorem dX8_init_103 : decode cX8_init 103 = .ok (.putfield 66, 3) := by decide +kernel
theorem dX8_init_106 : decode cX8_init 106 = .ok (.aload_n 0, 1) := by decide +kernel
theorem dX8_init_107 : decode cX8_init 107 = .ok (.new 61, 3) := by decide +kernel
theorem dX8_init_110 : decode cX8_init 110 = .ok (.dup, 1) := by decide +kernel
theorem dX8_init_111 : decode cX8_init 111 = .ok (.sipush 128, 3) := by decide +kernel
theorem dX8_init_114 : decode cX8_init 114 = .ok (.invokespecial 63, 3) := by decide +kernel
theorem dX8_init_117 : decode cX8_init 117 = .ok (.putfield 70, 3) := by decide +kernel
theorem dX8_init_120 : decode cX8_init 120 = .ok (.aload_n 0, 1) := by decide +kernel
theorem dX8_init_121 : decode cX8_init 121 = .ok (.new 61, 3) := by decide +kernel
theorem dX8_init_124 : decode cX8_init 124 = .ok (.dup, 1) := by decide +kernel
theorem dX8_init_125 : decode cX8_init 125 = .ok (.sipush 128, 3) := by decide +kernel
theorem dX8_init_128 : decode cX8_init 128 = .ok (.invokespecial 63, 3) := by decide +kernel
theorem dX8_init_131 : decode cX8_init 131 = .ok (.putfield 73, 3) := by decide +kernel
theorem dX8_init_134 : decode cX8_init 134 = .ok (.return_, 1) := by decide +kernel
theorem dX8_type_0 : decode cX8_type 0 = .ok (.iload_n 1, 1) := by decide +kernel
theorem dX8_type_1 : decode cX8_type 1 = .ok (.ifCond .lt 10, 3) := by decide +kernel
theorem dX8_type_4 : decode cX8_type 4 = .ok (.iload_n 1, 1) := by decide +kernel
theorem dX8_type_5 : decode cX8_type 5 = .ok (.sipush 255, 3) := by decide +kernel
theorem dX8_type_8 : decode cX8_type 8 = .ok (.if_icmp .le 5, 3) := by decide +kernel
theorem dX8_type_11 : decode cX8_type 11 = .ok (.iconst (-1), 1) := by decide +kernel
theorem dX8_type_12 : decode cX8_type 12 = .ok (.ireturn, 1) := by decide +kernel
theorem dX8_type_13 : decode cX8_type 13 = .ok (.aload_n 0, 1) := by decide +kernel
theorem dX8_type_14 : decode cX8_type 14 = .ok (.getfield 12, 3) := by decide +kernel
theorem dX8_type_17 : decode cX8_type 17 = .ok (.invokevirtual 76, 3) := by decide +kernel
theorem dX8_type_20 : decode cX8_type 20 = .ok (.astore_n 2, 1) := by decide +kernel
theorem dX8_type_21 : decode cX8_type 21 = .ok (.aload_n 2, 1) := by decide +kernel
theorem dX8_type_22 : decode cX8_type 22 = .ok (.iload_n 1, 1) := by decide +kernel
theorem dX8_type_23 : decode cX8_type 23 = .ok (.invokevirtual 80, 3) := by decide +kernel
theorem dX8_type_26 : decode cX8_type 26 = .ok (.ifCond .eq 10, 3) := by decide +kernel
theorem dX8_type_29 : decode cX8_type 29 = .ok (.aload_n 2, 1) := by decide +kernel
theorem dX8_type_30 : decode cX8_type 30 = .ok (.invokevirtual 84, 3) := by decide +kernel
theorem dX8_type_33 : decode cX8_type 33 = .ok (.goto 5, 3) := by decide +kernel
theorem dX8_type_36 : decode cX8_type 36 = .ok (.bipush (-3), 2) := by decide +kernel
theorem dX8_type_38 : decode cX8_type 38 = .ok (.ireturn, 1) := by decide +kernel
theorem dX8_clear_0 : decode cX8_clear 0 = .ok (.aload_n 0, 1) := by decide +kernel
theorem dX8_clear_1 : decode cX8_clear 1 = .ok (.getfield 12, 3) := by decide +kernel
theorem dX8_clear_4 : decode cX8_clear 4 = .ok (.invokevirtual 76, 3) := by decide +kernel
theorem dX8_clear_7 : decode cX8_clear 7 = .ok (.astore_n 1, 1) := by decide +kernel
theorem dX8_clear_8 : decode cX8_clear 8 = .ok (.aload_n 1, 1) := by decide +kernel
theorem dX8_clear_9 : decode cX8_clear 9 = .ok (.invokevirtual 84, 3) := by decide +kernel
theorem dX8_clear_12 : decode cX8_clear 12 = .ok (.istore_n 2, 1) := by decide +kernel
theorem dX8_clear_13 : decode cX8_clear 13 = .ok (.aload_n 1, 1) := by decide +kernel
theorem dX8_clear_14 : decode cX8_clear 14 = .ok (.invokevirtual 88, 3) := by decide +kernel
theorem dX8_clear_17 : decode cX8_clear 17 = .ok (.iload_n 2, 1) := by decide +kernel
theorem dX8_clear_18 : decode cX8_clear 18 = .ok (.ireturn, 1) := by decide +kernel
theorem dX8_tables_0 : decode cX8_tables 0 = .ok (.aload_n 0, 1) := by decide +kernel
theorem dX8_tables_1 : decode cX8_tables 1 = .ok (.getfield 12, 3) := by decide +kernel
theorem dX8_tables_4 : decode cX8_tables 4 = .ok (.aload_n 0, 1) := by decide +kernel
theorem dX8_tables_5 : decode cX8_tables 5 = .ok (.getfield 23, 3) := by decide +kernel
theorem dX8_tables_8 : decode cX8_tables 8 = .ok (.invokevirtual 91, 3) := by decide +kernel
theorem dX8_tables_11 : decode cX8_tables 11 = .ok (.istore_n 1, 1) := by decide +kernel
theorem dX8_tables_12 : decode cX8_tables 12 = .ok (.iload_n 1, 1) := by decide +kernel
theorem dX8_tables_13 : decode cX8_tables 13 = .ok (.iconst (-1), 1) := by decide +kernel
theorem dX8_tables_14 : decode cX8_tables 14 = .ok (.if_icmp .eq 8, 3) := by decide +kernel
theorem dX8_tables_17 : decode cX8_tables 17 = .ok (.bipush (-10), 2) := by decide +kernel
theorem dX8_tables_19 : decode cX8_tables 19 = .ok (.iload_n 1, 1) := by decide +kernel
theorem dX8_tables_20 : decode cX8_tables 20 = .ok (.isub, 1) := by decide +kernel
theorem dX8_tables_21 : decode cX8_tables 21 = .ok (.ireturn, 1) := by decide +kernel
theorem dX8_tables_22 : decode cX8_tables 22 = .ok (.aload_n 0, 1) := by decide +kernel
theorem dX8_tables_23 : decode cX8_tables 23 = .ok (.getfield 19, 3) := by decide +kernel
theorem dX8_tables_26 : decode cX8_tables 26 = .ok (.astore_n 2, 1) := by decide +kernel
theorem dX8_tables_27 : decode cX8_tables 27 = .ok (.aload_n 0, 1) := by decide +kernel
theorem dX8_tables_28 : decode cX8_tables 28 = .ok (.aload_n 0, 1) := by decide +kernel
theorem dX8_tables_29 : decode cX8_tables 29 = .ok (.getfield 23, 3) := by decide +kernel
theorem dX8_tables_32 : decode cX8_tables 32 = .ok (.putfield 19, 3) := by decide +kernel
theorem dX8_tables_35 : decode cX8_tables 35 = .ok (.aload_n 0, 1) := by decide +kernel
theorem dX8_tables_36 : decode cX8_tables 36 = .ok (.aload_n 2, 1) := by decide +kernel
theorem dX8_tables_37 : decode cX8_tables 37 = .ok (.putfield 23, 3) := by decide +kernel
theorem dX8_tables_40 : decode cX8_tables 40 = .ok (.aload_n 0, 1) := by decide +kernel
theorem dX8_tables_41 : decode cX8_tables 41 = .ok (.getfield 12, 3) := by decide +kernel
theorem dX8_tables_44 : decode cX8_tables 44 = .ok (.invokevirtual 76, 3) := by decide +kernel
theorem dX8_tables_47 : decode cX8_tables 47 = .ok (.invokevirtual 88, 3) := by decide +kernel
theorem dX8_tables_50 : decode cX8_tables 50 = .ok (.aload_n 0, 1) := by decide +kernel
theorem dX8_tables_51 : decode cX8_tables 51 = .ok (.getfield 29, 3) := by decide +kernel
theorem dX8_tables_54 : decode cX8_tables 54 = .ok (.invokevirtual 95, 3) := by decide +kernel
theorem dX8_tables_57 : decode cX8_tables 57 = .ok (.aload_n 0, 1) := by decide +kernel
theorem dX8_tables_58 : decode cX8_tables 58 = .ok (.getfield 36, 3) := by decide +kernel
theorem dX8_tables_61 : decode cX8_tables 61 = .ok (.invokevirtual 96, 3) := by decide +kernel
theorem dX8_tables_64 : decode cX8_tables 64 = .ok (.aload_n 0, 1) := by decide +kernel
theorem dX8_tables_65 : decode cX8_tables 65 = .ok (.getfield 43, 3) := by decide +kernel
theorem dX8_tables_68 : decode cX8_tables 68 = .ok (.invokevirtual 99, 3) := by decide +kernel
theorem dX8_tables_71 : decode cX8_tables 71 = .ok (.aload_n 0, 1) := by decide +kernel
theorem dX8_tables_72 : decode cX8_tables 72 = .ok (.getfield 19, 3) := by decide +kernel
theorem dX8_tables_75 : decode cX8_tables 75 = .ok (.invokevirtual 102, 3) := by decide +kernel
theorem dX8_tables_78 : decode cX8_tables 78 = .ok (.ireturn, 1) := by decide +kernel
theorem dX8_code_0 : decode cX8_code 0 = .ok (.aload_n 0, 1) := by decide +kernel
theorem dX8_code_1 : decode cX8_code 1 = .ok (.getfield 19, 3) := by decide +kernel
theorem dX8_code_4 : decode cX8_code 4 = .ok (.iload_n 1, 1) := by decide +kernel
theorem dX8_code_5 : decode cX8_code 5 = .ok (.invokevirtual 105, 3) := by decide +kernel
theorem dX8_code_8 : decode cX8_code 8 = .ok (.ifCond .ne 5, 3) := by decide +kernel
theorem dX8_code_11 : decode cX8_code 11 = .ok (.iconst (-1), 1) := by decide +kernel
theorem dX8_code_12 : decode cX8_code 12 = .ok (.ireturn, 1) := by decide +kernel
theorem dX8_code_13 : decode cX8_code 13 = .ok (.iload_n 2, 1) := by decide +kernel
theorem dX8_code_14 : decode cX8_code 14 = .ok (.tableswitch 107 0 8 #[50, 59, 68, 77, 86, 95, 95, 95, 95], 50) := by decide +kernel
theorem dX8_code_64 : decode cX8_code 64 = .ok (.aload_n 0, 1) := by decide +kernel
theorem dX8_code_65 : decode cX8_code 65 = .ok (.getfield 19, 3) := by decide +kernel
theorem dX8_code_68 : decode cX8_code 68 = .ok (.iload_n 1, 1) := by decide +kernel
theorem dX8_code_69 : decode cX8_code 69 = .ok (.invokevirtual 108, 3) := by decide +kernel
theorem dX8_code_72 : decode cX8_code 72 = .ok (.ireturn, 1) := by decide +kernel
theorem dX8_code_73 : decode cX8_code 73 = .ok (.aload_n 0, 1) := by decide +kernel
theorem dX8_code_74 : decode cX8_code 74 = .ok (.getfield 19, 3) := by decide +kernel
theorem dX8_code_77 : decode cX8_code 77 = .ok (.iload_n 1, 1) := by decide +kernel
theorem dX8_code_78 : decode cX8_code 78 = .ok (.invokevirtual 112, 3) := by decide +kernel
theorem dX8_code_81 : decode cX8_code 81 = .ok (.ireturn, 1) := by decide +kernel
theorem dX8_code_82 : decode cX8_code 82 = .ok (.aload_n 0, 1) := by decide +kernel
theorem dX8_code_83 : decode cX8_code 83 = .ok (.getfield 19, 3) := by decide +kernel
theorem dX8_code_86 : decode cX8_code 86 = .ok (.iload_n 1, 1) := by decide +kernel
theorem dX8_code_87 : decode cX8_code 87 = .ok (.invokevirtual 115, 3) := by decide +kernel
theorem dX8_code_90 : decode cX8_code 90 = .ok (.ireturn, 1) := by decide +kernel
theorem dX8_code_91 : decode cX8_code 91 = .ok (.aload_n 0, 1) := by decide +kernel
theorem dX8_code_92 : decode cX8_code 92 = .ok (.getfield 19, 3) := by decide +kernel
theorem dX8_code_95 : decode cX8_code 95 = .ok (.iload_n 1, 1) := by decide +kernel
theorem dX8_code_96 : decode cX8_code 96 = .ok (.invokevirtual 118, 3) := by decide +kernel
theorem dX8_code_99 : decode cX8_code 99 = .ok (.ireturn, 1) := by decide +kernel
theorem dX8_code_100 : decode cX8_code 100 = .ok (.aload_n 0, 1) := by decide +kernel
theorem dX8_code_101 : decode cX8_code 101 = .ok (.getfield 19, 3) := by decide +kernel
theorem dX8_code_104 : decode cX8_code 104 = .ok (.iload_n 1, 1) := by decide +kernel
theorem dX8_code_105 : decode cX8_code 105 = .ok (.invokevirtual 121, 3) := by decide +kernel
theorem dX8_code_108 : decode cX8_code 108 = .ok (.ireturn, 1) := by decide +kernel
theorem dX8_code_109 : decode cX8_code 109 = .ok (.aload_n 0, 1) := by decide +kernel
theorem dX8_code_110 : decode cX8_code 110 = .ok (.getfield 19, 3) := by decide +kernel
theorem dX8_code_113 : decode cX8_code 113 = .ok (.iload_n 1, 1) := by decide +kernel
theorem dX8_code_114 : decode cX8_code 114 = .ok (.iload_n 2, 1) := by decide +kernel
theorem dX8_code_115 : decode cX8_code 115 = .ok (.iconst 5, 1) := by decide +kernel
theorem dX8_code_116 : decode cX8_code 116 = .ok (.isub, 1) := by decide +kernel
theorem dX8_code_117 : decode cX8_code 117 = .ok (.invokevirtual 124, 3) := by decide +kernel
theorem dX8_code_120 : decode cX8_code 120 = .ok (.ireturn, 1) := by decide +kernel
theorem dX8_code_121 : decode cX8_code 121 = .ok (.iconst (-1), 1) := by decide +kernel
theorem dX8_code_122 : decode cX8_code 122 = .ok (.ireturn, 1) := by decide +kernel
theorem dX8_pair_0 : decode cX8_pair 0 = .ok (.aload_n 0, 1) := by decide +kernel
theorem dX8_pair_1 : decode cX8_pair 1 = .ok (.getfield 19, 3) := by decide +kernel
theorem dX8_pair_4 : decode cX8_pair 4 = .ok (.iload_n 1, 1) := by decide +kernel
theorem dX8_pair_5 : decode cX8_pair 5 = .ok (.invokevirtual 105, 3) := by decide +kernel
theorem dX8_pair_8 : decode cX8_pair 8 = .ok (.ifCond .eq 14, 3) := by decide +kernel
theorem dX8_pair_11 : decode cX8_pair 11 = .ok (.aload_n 0, 1) := by decide +kernel
theorem dX8_pair_12 : decode cX8_pair 12 = .ok (.getfield 19, 3) := by decide +kernel
theorem dX8_pair_15 : decode cX8_pair 15 = .ok (.iload_n 2, 1) := by decide +kernel
theorem dX8_pair_16 : decode cX8_pair 16 = .ok (.invokevirtual 105, 3) := by decide +kernel
theorem dX8_pair_19 : decode cX8_pair 19 = .ok (.ifCond .ne 5, 3) := by decide +kernel
theorem dX8_pair_22 : decode cX8_pair 22 = .ok (.iconst (-1), 1) := by decide +kernel
theorem dX8_pair_23 : decode cX8_pair 23 = .ok (.ireturn, 1) := by decide +kernel
theorem dX8_pair_24 : decode cX8_pair 24 = .ok (.aload_n 0, 1) := by decide +kernel
theorem dX8_pair_25 : decode cX8_pair 25 = .ok (.getfield 19, 3) := by decide +kernel
theorem dX8_pair_28 : decode cX8_pair 28 = .ok (.iload_n 1, 1) := by decide +kernel
theorem dX8_pair_29 : decode cX8_pair 29 = .ok (.iload_n 2, 1) := by decide +kernel
theorem dX8_pair_30 : decode cX8_pair 30 = .ok (.invokevirtual 128, 3) := by decide +kernel
theorem dX8_pair_33 : decode cX8_pair 33 = .ok (.ireturn, 1) := by decide +kernel
theorem dX8_puts_0 : decode cX8_puts 0 = .ok (.aload_n 0, 1) := by decide +kernel
theorem dX8_puts_1 : decode cX8_puts 1 = .ok (.getfield 29, 3) := by decide +kernel
theorem dX8_puts_4 : decode cX8_puts 4 = .ok (.iload_n 1, 1) := by decide +kernel
theorem dX8_puts_5 : decode cX8_puts 5 = .ok (.invokevirtual 131, 3) := by decide +kernel
theorem dX8_puts_8 : decode cX8_puts 8 = .ok (.astore_n 3, 1) := by decide +kernel
theorem dX8_puts_9 : decode cX8_puts 9 = .ok (.aload_n 3, 1) := by decide +kernel
theorem dX8_puts_10 : decode cX8_puts 10 = .ok (.ifnull 14, 3) := by decide +kernel
theorem dX8_puts_13 : decode cX8_puts 13 = .ok (.aload_n 0, 1) := by decide +kernel
theorem dX8_puts_14 : decode cX8_puts 14 = .ok (.getfield 19, 3) := by decide +kernel
theorem dX8_puts_17 : decode cX8_puts 17 = .ok (.iload_n 2, 1) := by decide +kernel
theorem dX8_puts_18 : decode cX8_puts 18 = .ok (.invokevirtual 105, 3) := by decide +kernel
theorem dX8_puts_21 : decode cX8_puts 21 = .ok (.ifCond .ne 5, 3) := by decide +kernel
theorem dX8_puts_24 : decode cX8_puts 24 = .ok (.iconst (-1), 1) := by decide +kernel
theorem dX8_puts_25 : decode cX8_puts 25 = .ok (.ireturn, 1) := by decide +kernel
theorem dX8_puts_26 : decode cX8_puts 26 = .ok (.aload_n 3, 1) := by decide +kernel
theorem dX8_puts_27 : decode cX8_puts 27 = .ok (.invokevirtual 84, 3) := by decide +kernel
theorem dX8_puts_30 : decode cX8_puts 30 = .ok (.bipush 16, 2) := by decide +kernel
theorem dX8_puts_32 : decode cX8_puts 32 = .ok (.if_icmp .lt 6, 3) := by decide +kernel
theorem dX8_puts_35 : decode cX8_puts 35 = .ok (.bipush (-3), 2) := by decide +kernel
theorem dX8_puts_37 : decode cX8_puts 37 = .ok (.ireturn, 1) := by decide +kernel
theorem dX8_puts_38 : decode cX8_puts 38 = .ok (.aload_n 0, 1) := by decide +kernel
theorem dX8_puts_39 : decode cX8_puts 39 = .ok (.getfield 43, 3) := by decide +kernel
theorem dX8_puts_42 : decode cX8_puts 42 = .ok (.iload_n 1, 1) := by decide +kernel
theorem dX8_puts_43 : decode cX8_puts 43 = .ok (.aload_n 3, 1) := by decide +kernel
theorem dX8_puts_44 : decode cX8_puts 44 = .ok (.invokevirtual 135, 3) := by decide +kernel
theorem dX8_puts_47 : decode cX8_puts 47 = .ok (.aload_n 3, 1) := by decide +kernel
theorem dX8_puts_48 : decode cX8_puts 48 = .ok (.iload_n 2, 1) := by decide +kernel
theorem dX8_puts_49 : decode cX8_puts 49 = .ok (.invokevirtual 80, 3) := by decide +kernel
theorem dX8_puts_52 : decode cX8_puts 52 = .ok (.pop, 1) := by decide +kernel
theorem dX8_puts_53 : decode cX8_puts 53 = .ok (.aload_n 3, 1) := by decide +kernel
theorem dX8_puts_54 : decode cX8_puts 54 = .ok (.invokevirtual 84, 3) := by decide +kernel
theorem dX8_puts_57 : decode cX8_puts 57 = .ok (.ireturn, 1) := by decide +kernel
theorem dX8_cuts_0 : decode cX8_cuts 0 = .ok (.aload_n 0, 1) := by decide +kernel
theorem dX8_cuts_1 : decode cX8_cuts 1 = .ok (.getfield 29, 3) := by decide +kernel
theorem dX8_cuts_4 : decode cX8_cuts 4 = .ok (.iload_n 1, 1) := by decide +kernel
theorem dX8_cuts_5 : decode cX8_cuts 5 = .ok (.invokevirtual 131, 3) := by decide +kernel
theorem dX8_cuts_8 : decode cX8_cuts 8 = .ok (.astore_n 2, 1) := by decide +kernel
theorem dX8_cuts_9 : decode cX8_cuts 9 = .ok (.aload_n 2, 1) := by decide +kernel
theorem dX8_cuts_10 : decode cX8_cuts 10 = .ok (.ifnonnull 5, 3) := by decide +kernel
theorem dX8_cuts_13 : decode cX8_cuts 13 = .ok (.iconst (-1), 1) := by decide +kernel
theorem dX8_cuts_14 : decode cX8_cuts 14 = .ok (.ireturn, 1) := by decide +kernel
theorem dX8_cuts_15 : decode cX8_cuts 15 = .ok (.aload_n 2, 1) := by decide +kernel
theorem dX8_cuts_16 : decode cX8_cuts 16 = .ok (.invokevirtual 84, 3) := by decide +kernel
theorem dX8_cuts_19 : decode cX8_cuts 19 = .ok (.istore_n 3, 1) := by decide +kernel
theorem dX8_cuts_20 : decode cX8_cuts 20 = .ok (.iload_n 3, 1) := by decide +kernel
theorem dX8_cuts_21 : decode cX8_cuts 21 = .ok (.ifCond .ne 6, 3) := by decide +kernel
theorem dX8_cuts_24 : decode cX8_cuts 24 = .ok (.bipush (-2), 2) := by decide +kernel
theorem dX8_cuts_26 : decode cX8_cuts 26 = .ok (.ireturn, 1) := by decide +kernel
theorem dX8_cuts_27 : decode cX8_cuts 27 = .ok (.aload_n 0, 1) := by decide +kernel
theorem dX8_cuts_28 : decode cX8_cuts 28 = .ok (.getfield 43, 3) := by decide +kernel
theorem dX8_cuts_31 : decode cX8_cuts 31 = .ok (.iload_n 1, 1) := by decide +kernel
theorem dX8_cuts_32 : decode cX8_cuts 32 = .ok (.aload_n 2, 1) := by decide +kernel
theorem dX8_cuts_33 : decode cX8_cuts 33 = .ok (.invokevirtual 135, 3) := by decide +kernel
theorem dX8_cuts_36 : decode cX8_cuts 36 = .ok (.aload_n 2, 1) := by decide +kernel
theorem dX8_cuts_37 : decode cX8_cuts 37 = .ok (.iload_n 3, 1) := by decide +kernel
theorem dX8_cuts_38 : decode cX8_cuts 38 = .ok (.iconst 1, 1) := by decide +kernel
theorem dX8_cuts_39 : decode cX8_cuts 39 = .ok (.isub, 1) := by decide +kernel
theorem dX8_cuts_40 : decode cX8_cuts 40 = .ok (.invokevirtual 139, 3) := by decide +kernel
theorem dX8_cuts_43 : decode cX8_cuts 43 = .ok (.istore 4, 2) := by decide +kernel
theorem dX8_cuts_45 : decode cX8_cuts 45 = .ok (.aload_n 2, 1) := by decide +kernel
theorem dX8_cuts_46 : decode cX8_cuts 46 = .ok (.iload_n 3, 1) := by decide +kernel
theorem dX8_cuts_47 : decode cX8_cuts 47 = .ok (.iconst 1, 1) := by decide +kernel
theorem dX8_cuts_48 : decode cX8_cuts 48 = .ok (.isub, 1) := by decide +kernel
theorem dX8_cuts_49 : decode cX8_cuts 49 = .ok (.invokevirtual 142, 3) := by decide +kernel
theorem dX8_cuts_52 : decode cX8_cuts 52 = .ok (.iload 4, 2) := by decide +kernel
theorem dX8_cuts_54 : decode cX8_cuts 54 = .ok (.ireturn, 1) := by decide +kernel
theorem dX8_appends_0 : decode cX8_appends 0 = .ok (.aload_n 0, 1) := by decide +kernel
theorem dX8_appends_1 : decode cX8_appends 1 = .ok (.getfield 29, 3) := by decide +kernel
theorem dX8_appends_4 : decode cX8_appends 4 = .ok (.iload_n 1, 1) := by decide +kernel
theorem dX8_appends_5 : decode cX8_appends 5 = .ok (.invokevirtual 131, 3) := by decide +kernel
theorem dX8_appends_8 : decode cX8_appends 8 = .ok (.astore_n 3, 1) := by decide +kernel
theorem dX8_appends_9 : decode cX8_appends 9 = .ok (.aload_n 0, 1) := by decide +kernel
theorem dX8_appends_10 : decode cX8_appends 10 = .ok (.getfield 29, 3) := by decide +kernel
theorem dX8_appends_13 : decode cX8_appends 13 = .ok (.iload_n 2, 1) := by decide +kernel
theorem dX8_appends_14 : decode cX8_appends 14 = .ok (.invokevirtual 131, 3) := by decide +kernel
theorem dX8_appends_17 : decode cX8_appends 17 = .ok (.astore 4, 2) := by decide +kernel
theorem dX8_appends_19 : decode cX8_appends 19 = .ok (.aload_n 3, 1) := by decide +kernel
theorem dX8_appends_20 : decode cX8_appends 20 = .ok (.ifnull 8, 3) := by decide +kernel
theorem dX8_appends_23 : decode cX8_appends 23 = .ok (.aload 4, 2) := by decide +kernel
theorem dX8_appends_25 : decode cX8_appends 25 = .ok (.ifnonnull 5, 3) := by decide +kernel
theorem dX8_appends_28 : decode cX8_appends 28 = .ok (.iconst (-1), 1) := by decide +kernel
theorem dX8_appends_29 : decode cX8_appends 29 = .ok (.ireturn, 1) := by decide +kernel
theorem dX8_appends_30 : decode cX8_appends 30 = .ok (.aload_n 3, 1) := by decide +kernel
theorem dX8_appends_31 : decode cX8_appends 31 = .ok (.invokevirtual 84, 3) := by decide +kernel
theorem dX8_appends_34 : decode cX8_appends 34 = .ok (.aload 4, 2) := by decide +kernel
theorem dX8_appends_36 : decode cX8_appends 36 = .ok (.invokevirtual 84, 3) := by decide +kernel
theorem dX8_appends_39 : decode cX8_appends 39 = .ok (.iadd, 1) := by decide +kernel
theorem dX8_appends_40 : decode cX8_appends 40 = .ok (.bipush 16, 2) := by decide +kernel
theorem dX8_appends_42 : decode cX8_appends 42 = .ok (.if_icmp .le 6, 3) := by decide +kernel
theorem dX8_appends_45 : decode cX8_appends 45 = .ok (.bipush (-3), 2) := by decide +kernel
theorem dX8_appends_47 : decode cX8_appends 47 = .ok (.ireturn, 1) := by decide +kernel
theorem dX8_appends_48 : decode cX8_appends 48 = .ok (.aload_n 0, 1) := by decide +kernel
theorem dX8_appends_49 : decode cX8_appends 49 = .ok (.getfield 43, 3) := by decide +kernel
theorem dX8_appends_52 : decode cX8_appends 52 = .ok (.iload_n 1, 1) := by decide +kernel
theorem dX8_appends_53 : decode cX8_appends 53 = .ok (.aload_n 3, 1) := by decide +kernel
theorem dX8_appends_54 : decode cX8_appends 54 = .ok (.invokevirtual 135, 3) := by decide +kernel
theorem dX8_appends_57 : decode cX8_appends 57 = .ok (.aload_n 3, 1) := by decide +kernel
theorem dX8_appends_58 : decode cX8_appends 58 = .ok (.aload 4, 2) := by decide +kernel
theorem dX8_appends_60 : decode cX8_appends 60 = .ok (.invokevirtual 145, 3) := by decide +kernel
theorem dX8_appends_63 : decode cX8_appends 63 = .ok (.aload_n 3, 1) := by decide +kernel
theorem dX8_appends_64 : decode cX8_appends 64 = .ok (.invokevirtual 84, 3) := by decide +kernel
theorem dX8_appends_67 : decode cX8_appends 67 = .ok (.ireturn, 1) := by decide +kernel
theorem dX8_forms_0 : decode cX8_forms 0 = .ok (.aload_n 0, 1) := by decide +kernel
theorem dX8_forms_1 : decode cX8_forms 1 = .ok (.getfield 29, 3) := by decide +kernel
theorem dX8_forms_4 : decode cX8_forms 4 = .ok (.iload_n 1, 1) := by decide +kernel
theorem dX8_forms_5 : decode cX8_forms 5 = .ok (.invokevirtual 131, 3) := by decide +kernel
theorem dX8_forms_8 : decode cX8_forms 8 = .ok (.astore_n 3, 1) := by decide +kernel
theorem dX8_forms_9 : decode cX8_forms 9 = .ok (.aload_n 3, 1) := by decide +kernel
theorem dX8_forms_10 : decode cX8_forms 10 = .ok (.ifnull 10, 3) := by decide +kernel
theorem dX8_forms_13 : decode cX8_forms 13 = .ok (.iload_n 2, 1) := by decide +kernel
theorem dX8_forms_14 : decode cX8_forms 14 = .ok (.invokestatic 149, 3) := by decide +kernel
theorem dX8_forms_17 : decode cX8_forms 17 = .ok (.ifCond .ne 5, 3) := by decide +kernel
theorem dX8_forms_20 : decode cX8_forms 20 = .ok (.iconst (-1), 1) := by decide +kernel
theorem dX8_forms_21 : decode cX8_forms 21 = .ok (.ireturn, 1) := by decide +kernel
theorem dX8_forms_22 : decode cX8_forms 22 = .ok (.aload_n 0, 1) := by decide +kernel
theorem dX8_forms_23 : decode cX8_forms 23 = .ok (.getfield 50, 3) := by decide +kernel
theorem dX8_forms_26 : decode cX8_forms 26 = .ok (.iload_n 2, 1) := by decide +kernel
theorem dX8_forms_27 : decode cX8_forms 27 = .ok (.aload_n 0, 1) := by decide +kernel
theorem dX8_forms_28 : decode cX8_forms 28 = .ok (.getfield 19, 3) := by decide +kernel
theorem dX8_forms_31 : decode cX8_forms 31 = .ok (.aload_n 3, 1) := by decide +kernel
theorem dX8_forms_32 : decode cX8_forms 32 = .ok (.aload_n 0, 1) := by decide +kernel
theorem dX8_forms_33 : decode cX8_forms 33 = .ok (.getfield 66, 3) := by decide +kernel
theorem dX8_forms_36 : decode cX8_forms 36 = .ok (.invokevirtual 152, 3) := by decide +kernel
theorem dX8_forms_39 : decode cX8_forms 39 = .ok (.aload_n 0, 1) := by decide +kernel
theorem dX8_forms_40 : decode cX8_forms 40 = .ok (.getfield 66, 3) := by decide +kernel
theorem dX8_forms_43 : decode cX8_forms 43 = .ok (.invokevirtual 84, 3) := by decide +kernel
theorem dX8_forms_46 : decode cX8_forms 46 = .ok (.bipush 16, 2) := by decide +kernel
theorem dX8_forms_48 : decode cX8_forms 48 = .ok (.if_icmp .le 6, 3) := by decide +kernel
theorem dX8_forms_51 : decode cX8_forms 51 = .ok (.bipush (-3), 2) := by decide +kernel
theorem dX8_forms_53 : decode cX8_forms 53 = .ok (.ireturn, 1) := by decide +kernel
theorem dX8_forms_54 : decode cX8_forms 54 = .ok (.aload_n 0, 1) := by decide +kernel
theorem dX8_forms_55 : decode cX8_forms 55 = .ok (.getfield 43, 3) := by decide +kernel
theorem dX8_forms_58 : decode cX8_forms 58 = .ok (.iload_n 1, 1) := by decide +kernel
theorem dX8_forms_59 : decode cX8_forms 59 = .ok (.aload_n 3, 1) := by decide +kernel
theorem dX8_forms_60 : decode cX8_forms 60 = .ok (.invokevirtual 135, 3) := by decide +kernel
theorem dX8_forms_63 : decode cX8_forms 63 = .ok (.aload_n 3, 1) := by decide +kernel
theorem dX8_forms_64 : decode cX8_forms 64 = .ok (.aload_n 0, 1) := by decide +kernel
theorem dX8_forms_65 : decode cX8_forms 65 = .ok (.getfield 66, 3) := by decide +kernel
theorem dX8_forms_68 : decode cX8_forms 68 = .ok (.invokevirtual 156, 3) := by decide +kernel
theorem dX8_forms_71 : decode cX8_forms 71 = .ok (.aload_n 3, 1) := by decide +kernel
theorem dX8_forms_72 : decode cX8_forms 72 = .ok (.invokevirtual 84, 3) := by decide +kernel
theorem dX8_forms_75 : decode cX8_forms 75 = .ok (.ireturn, 1) := by decide +kernel
theorem dX8_undo_0 : decode cX8_undo 0 = .ok (.aload_n 0, 1) := by decide +kernel
theorem dX8_undo_1 : decode cX8_undo 1 = .ok (.getfield 29, 3) := by decide +kernel
theorem dX8_undo_4 : decode cX8_undo 4 = .ok (.aload_n 0, 1) := by decide +kernel
theorem dX8_undo_5 : decode cX8_undo 5 = .ok (.getfield 43, 3) := by decide +kernel
theorem dX8_undo_8 : decode cX8_undo 8 = .ok (.invokevirtual 159, 3) := by decide +kernel
theorem dX8_undo_11 : decode cX8_undo 11 = .ok (.invokevirtual 131, 3) := by decide +kernel
theorem dX8_undo_14 : decode cX8_undo 14 = .ok (.astore_n 1, 1) := by decide +kernel
theorem dX8_undo_15 : decode cX8_undo 15 = .ok (.aload_n 1, 1) := by decide +kernel
theorem dX8_undo_16 : decode cX8_undo 16 = .ok (.ifnonnull 6, 3) := by decide +kernel
theorem dX8_undo_19 : decode cX8_undo 19 = .ok (.bipush (-2), 2) := by decide +kernel
theorem dX8_undo_21 : decode cX8_undo 21 = .ok (.ireturn, 1) := by decide +kernel
theorem dX8_undo_22 : decode cX8_undo 22 = .ok (.aload_n 0, 1) := by decide +kernel
theorem dX8_undo_23 : decode cX8_undo 23 = .ok (.getfield 43, 3) := by decide +kernel
theorem dX8_undo_26 : decode cX8_undo 26 = .ok (.aload_n 1, 1) := by decide +kernel
theorem dX8_undo_27 : decode cX8_undo 27 = .ok (.invokevirtual 162, 3) := by decide +kernel
theorem dX8_undo_30 : decode cX8_undo 30 = .ok (.aload_n 0, 1) := by decide +kernel
theorem dX8_undo_31 : decode cX8_undo 31 = .ok (.getfield 43, 3) := by decide +kernel
theorem dX8_undo_34 : decode cX8_undo 34 = .ok (.invokevirtual 165, 3) := by decide +kernel
theorem dX8_undo_37 : decode cX8_undo 37 = .ok (.ireturn, 1) := by decide +kernel
theorem dX8_at_0 : decode cX8_at 0 = .ok (.aload_n 0, 1) := by decide +kernel
theorem dX8_at_1 : decode cX8_at 1 = .ok (.getfield 29, 3) := by decide +kernel
theorem dX8_at_4 : decode cX8_at 4 = .ok (.iload_n 1, 1) := by decide +kernel
theorem dX8_at_5 : decode cX8_at 5 = .ok (.invokevirtual 131, 3) := by decide +kernel
theorem dX8_at_8 : decode cX8_at 8 = .ok (.astore_n 3, 1) := by decide +kernel
theorem dX8_at_9 : decode cX8_at 9 = .ok (.aload_n 3, 1) := by decide +kernel
theorem dX8_at_10 : decode cX8_at 10 = .ok (.ifnonnull 7, 3) := by decide +kernel
theorem dX8_at_13 : decode cX8_at 13 = .ok (.iconst (-1), 1) := by decide +kernel
theorem dX8_at_14 : decode cX8_at 14 = .ok (.goto 8, 3) := by decide +kernel
theorem dX8_at_17 : decode cX8_at 17 = .ok (.aload_n 3, 1) := by decide +kernel
theorem dX8_at_18 : decode cX8_at 18 = .ok (.iload_n 2, 1) := by decide +kernel
theorem dX8_at_19 : decode cX8_at 19 = .ok (.invokestatic 168, 3) := by decide +kernel
theorem dX8_at_22 : decode cX8_at 22 = .ok (.ireturn, 1) := by decide +kernel
theorem dX8_ruled_0 : decode cX8_ruled 0 = .ok (.aload_n 0, 1) := by decide +kernel
theorem dX8_ruled_1 : decode cX8_ruled 1 = .ok (.getfield 29, 3) := by decide +kernel
theorem dX8_ruled_4 : decode cX8_ruled 4 = .ok (.iload_n 1, 1) := by decide +kernel
theorem dX8_ruled_5 : decode cX8_ruled 5 = .ok (.invokevirtual 131, 3) := by decide +kernel
theorem dX8_ruled_8 : decode cX8_ruled 8 = .ok (.astore 4, 2) := by decide +kernel
theorem dX8_ruled_10 : decode cX8_ruled 10 = .ok (.aload 4, 2) := by decide +kernel
theorem dX8_ruled_12 : decode cX8_ruled 12 = .ok (.ifnull 10, 3) := by decide +kernel
theorem dX8_ruled_15 : decode cX8_ruled 15 = .ok (.iload_n 2, 1) := by decide +kernel
theorem dX8_ruled_16 : decode cX8_ruled 16 = .ok (.invokestatic 149, 3) := by decide +kernel
theorem dX8_ruled_19 : decode cX8_ruled 19 = .ok (.ifCond .ne 5, 3) := by decide +kernel
theorem dX8_ruled_22 : decode cX8_ruled 22 = .ok (.iconst (-1), 1) := by decide +kernel
theorem dX8_ruled_23 : decode cX8_ruled 23 = .ok (.ireturn, 1) := by decide +kernel
theorem dX8_ruled_24 : decode cX8_ruled 24 = .ok (.aload_n 0, 1) := by decide +kernel
theorem dX8_ruled_25 : decode cX8_ruled 25 = .ok (.getfield 50, 3) := by decide +kernel
theorem dX8_ruled_28 : decode cX8_ruled 28 = .ok (.iload_n 2, 1) := by decide +kernel
theorem dX8_ruled_29 : decode cX8_ruled 29 = .ok (.aload_n 0, 1) := by decide +kernel
theorem dX8_ruled_30 : decode cX8_ruled 30 = .ok (.getfield 19, 3) := by decide +kernel
theorem dX8_ruled_33 : decode cX8_ruled 33 = .ok (.aload 4, 2) := by decide +kernel
theorem dX8_ruled_35 : decode cX8_ruled 35 = .ok (.aload_n 0, 1) := by decide +kernel
theorem dX8_ruled_36 : decode cX8_ruled 36 = .ok (.getfield 66, 3) := by decide +kernel
theorem dX8_ruled_39 : decode cX8_ruled 39 = .ok (.invokevirtual 152, 3) := by decide +kernel
theorem dX8_ruled_42 : decode cX8_ruled 42 = .ok (.aload_n 0, 1) := by decide +kernel
theorem dX8_ruled_43 : decode cX8_ruled 43 = .ok (.getfield 66, 3) := by decide +kernel
theorem dX8_ruled_46 : decode cX8_ruled 46 = .ok (.iload_n 3, 1) := by decide +kernel
theorem dX8_ruled_47 : decode cX8_ruled 47 = .ok (.invokestatic 168, 3) := by decide +kernel
theorem dX8_ruled_50 : decode cX8_ruled 50 = .ok (.ireturn, 1) := by decide +kernel
theorem dX8_quick_0 : decode cX8_quick 0 = .ok (.aload_n 0, 1) := by decide +kernel
theorem dX8_quick_1 : decode cX8_quick 1 = .ok (.getfield 29, 3) := by decide +kernel
theorem dX8_quick_4 : decode cX8_quick 4 = .ok (.iload_n 1, 1) := by decide +kernel
theorem dX8_quick_5 : decode cX8_quick 5 = .ok (.invokevirtual 131, 3) := by decide +kernel
theorem dX8_quick_8 : decode cX8_quick 8 = .ok (.astore_n 3, 1) := by decide +kernel
theorem dX8_quick_9 : decode cX8_quick 9 = .ok (.aload_n 3, 1) := by decide +kernel
theorem dX8_quick_10 : decode cX8_quick 10 = .ok (.ifnonnull 5, 3) := by decide +kernel
theorem dX8_quick_13 : decode cX8_quick 13 = .ok (.iconst (-1), 1) := by decide +kernel
theorem dX8_quick_14 : decode cX8_quick 14 = .ok (.ireturn, 1) := by decide +kernel
theorem dX8_quick_15 : decode cX8_quick 15 = .ok (.iload_n 2, 1) := by decide +kernel
theorem dX8_quick_16 : decode cX8_quick 16 = .ok (.lookupswitch 40 #[(0, 28), (1, 34)], 28) := by decide +kernel
theorem dX8_quick_44 : decode cX8_quick 44 = .ok (.aload_n 0, 1) := by decide +kernel
theorem dX8_quick_45 : decode cX8_quick 45 = .ok (.aload_n 3, 1) := by decide +kernel
theorem dX8_quick_46 : decode cX8_quick 46 = .ok (.invokevirtual 172, 3) := by decide +kernel
theorem dX8_quick_49 : decode cX8_quick 49 = .ok (.ireturn, 1) := by decide +kernel
theorem dX8_quick_50 : decode cX8_quick 50 = .ok (.aload_n 0, 1) := by decide +kernel
theorem dX8_quick_51 : decode cX8_quick 51 = .ok (.aload_n 3, 1) := by decide +kernel
theorem dX8_quick_52 : decode cX8_quick 52 = .ok (.invokevirtual 176, 3) := by decide +kernel
theorem dX8_quick_55 : decode cX8_quick 55 = .ok (.ireturn, 1) := by decide +kernel
theorem dX8_quick_56 : decode cX8_quick 56 = .ok (.iconst (-1), 1) := by decide +kernel
theorem dX8_quick_57 : decode cX8_quick 57 = .ok (.ireturn, 1) := by decide +kernel
theorem dX8_same_0 : decode cX8_same 0 = .ok (.aload_n 0, 1) := by decide +kernel
theorem dX8_same_1 : decode cX8_same 1 = .ok (.getfield 29, 3) := by decide +kernel
theorem dX8_same_4 : decode cX8_same 4 = .ok (.iload_n 1, 1) := by decide +kernel
theorem dX8_same_5 : decode cX8_same 5 = .ok (.invokevirtual 131, 3) := by decide +kernel
theorem dX8_same_8 : decode cX8_same 8 = .ok (.astore 4, 2) := by decide +kernel
theorem dX8_same_10 : decode cX8_same 10 = .ok (.aload_n 0, 1) := by decide +kernel
theorem dX8_same_11 : decode cX8_same 11 = .ok (.getfield 29, 3) := by decide +kernel
theorem dX8_same_14 : decode cX8_same 14 = .ok (.iload_n 2, 1) := by decide +kernel
theorem dX8_same_15 : decode cX8_same 15 = .ok (.invokevirtual 131, 3) := by decide +kernel
theorem dX8_same_18 : decode cX8_same 18 = .ok (.astore 5, 2) := by decide +kernel
theorem dX8_same_20 : decode cX8_same 20 = .ok (.aload 4, 2) := by decide +kernel
theorem dX8_same_22 : decode cX8_same 22 = .ok (.ifnull 15, 3) := by decide +kernel
theorem dX8_same_25 : decode cX8_same 25 = .ok (.aload 5, 2) := by decide +kernel
theorem dX8_same_27 : decode cX8_same 27 = .ok (.ifnull 10, 3) := by decide +kernel
theorem dX8_same_30 : decode cX8_same 30 = .ok (.iload_n 3, 1) := by decide +kernel
theorem dX8_same_31 : decode cX8_same 31 = .ok (.invokestatic 149, 3) := by decide +kernel
theorem dX8_same_34 : decode cX8_same 34 = .ok (.ifCond .ne 5, 3) := by decide +kernel
theorem dX8_same_37 : decode cX8_same 37 = .ok (.iconst (-1), 1) := by decide +kernel
theorem dX8_same_38 : decode cX8_same 38 = .ok (.ireturn, 1) := by decide +kernel
theorem dX8_same_39 : decode cX8_same 39 = .ok (.aload_n 0, 1) := by decide +kernel
theorem dX8_same_40 : decode cX8_same 40 = .ok (.getfield 50, 3) := by decide +kernel
theorem dX8_same_43 : decode cX8_same 43 = .ok (.iload_n 3, 1) := by decide +kernel
theorem dX8_same_44 : decode cX8_same 44 = .ok (.aload_n 0, 1) := by decide +kernel
theorem dX8_same_45 : decode cX8_same 45 = .ok (.getfield 19, 3) := by decide +kernel
theorem dX8_same_48 : decode cX8_same 48 = .ok (.aload 4, 2) := by decide +kernel
theorem dX8_same_50 : decode cX8_same 50 = .ok (.aload_n 0, 1) := by decide +kernel
theorem dX8_same_51 : decode cX8_same 51 = .ok (.getfield 70, 3) := by decide +kernel
theorem dX8_same_54 : decode cX8_same 54 = .ok (.invokevirtual 152, 3) := by decide +kernel
theorem dX8_same_57 : decode cX8_same 57 = .ok (.aload_n 0, 1) := by decide +kernel
theorem dX8_same_58 : decode cX8_same 58 = .ok (.getfield 50, 3) := by decide +kernel
theorem dX8_same_61 : decode cX8_same 61 = .ok (.iload_n 3, 1) := by decide +kernel
theorem dX8_same_62 : decode cX8_same 62 = .ok (.aload_n 0, 1) := by decide +kernel
theorem dX8_same_63 : decode cX8_same 63 = .ok (.getfield 19, 3) := by decide +kernel
theorem dX8_same_66 : decode cX8_same 66 = .ok (.aload 5, 2) := by decide +kernel
theorem dX8_same_68 : decode cX8_same 68 = .ok (.aload_n 0, 1) := by decide +kernel
theorem dX8_same_69 : decode cX8_same 69 = .ok (.getfield 73, 3) := by decide +kernel
theorem dX8_same_72 : decode cX8_same 72 = .ok (.invokevirtual 152, 3) := by decide +kernel
theorem dX8_same_75 : decode cX8_same 75 = .ok (.aload_n 0, 1) := by decide +kernel
theorem dX8_same_76 : decode cX8_same 76 = .ok (.getfield 70, 3) := by decide +kernel
theorem dX8_same_79 : decode cX8_same 79 = .ok (.aload_n 0, 1) := by decide +kernel
theorem dX8_same_80 : decode cX8_same 80 = .ok (.getfield 73, 3) := by decide +kernel
theorem dX8_same_83 : decode cX8_same 83 = .ok (.invokevirtual 179, 3) := by decide +kernel
theorem dX8_same_86 : decode cX8_same 86 = .ok (.ifCond .eq 7, 3) := by decide +kernel
theorem dX8_same_89 : decode cX8_same 89 = .ok (.iconst 1, 1) := by decide +kernel
theorem dX8_same_90 : decode cX8_same 90 = .ok (.goto 4, 3) := by decide +kernel
theorem dX8_same_93 : decode cX8_same 93 = .ok (.iconst 0, 1) := by decide +kernel
theorem dX8_same_94 : decode cX8_same 94 = .ok (.ireturn, 1) := by decide +kernel
theorem dX8_seam_0 : decode cX8_seam 0 = .ok (.aload_n 0, 1) := by decide +kernel
theorem dX8_seam_1 : decode cX8_seam 1 = .ok (.getfield 29, 3) := by decide +kernel
theorem dX8_seam_4 : decode cX8_seam 4 = .ok (.iload_n 1, 1) := by decide +kernel
theorem dX8_seam_5 : decode cX8_seam 5 = .ok (.invokevirtual 131, 3) := by decide +kernel
theorem dX8_seam_8 : decode cX8_seam 8 = .ok (.astore 5, 2) := by decide +kernel
theorem dX8_seam_10 : decode cX8_seam 10 = .ok (.aload_n 0, 1) := by decide +kernel
theorem dX8_seam_11 : decode cX8_seam 11 = .ok (.getfield 29, 3) := by decide +kernel
theorem dX8_seam_14 : decode cX8_seam 14 = .ok (.iload_n 2, 1) := by decide +kernel
theorem dX8_seam_15 : decode cX8_seam 15 = .ok (.invokevirtual 131, 3) := by decide +kernel
theorem dX8_seam_18 : decode cX8_seam 18 = .ok (.astore 6, 2) := by decide +kernel
theorem dX8_seam_20 : decode cX8_seam 20 = .ok (.aload 5, 2) := by decide +kernel
theorem dX8_seam_22 : decode cX8_seam 22 = .ok (.ifnull 26, 3) := by decide +kernel
theorem dX8_seam_25 : decode cX8_seam 25 = .ok (.aload 6, 2) := by decide +kernel
theorem dX8_seam_27 : decode cX8_seam 27 = .ok (.ifnull 21, 3) := by decide +kernel
theorem dX8_seam_30 : decode cX8_seam 30 = .ok (.iload_n 3, 1) := by decide +kernel
theorem dX8_seam_31 : decode cX8_seam 31 = .ok (.invokestatic 149, 3) := by decide +kernel
theorem dX8_seam_34 : decode cX8_seam 34 = .ok (.ifCond .eq 14, 3) := by decide +kernel
theorem dX8_seam_37 : decode cX8_seam 37 = .ok (.iload 4, 2) := by decide +kernel
theorem dX8_seam_39 : decode cX8_seam 39 = .ok (.ifCond .lt 9, 3) := by decide +kernel
theorem dX8_seam_42 : decode cX8_seam 42 = .ok (.iload 4, 2) := by decide +kernel
theorem dX8_seam_44 : decode cX8_seam 44 = .ok (.iconst 2, 1) := by decide +kernel
theorem dX8_seam_45 : decode cX8_seam 45 = .ok (.if_icmp .le 5, 3) := by decide +kernel
theorem dX8_seam_48 : decode cX8_seam 48 = .ok (.iconst (-1), 1) := by decide +kernel
theorem dX8_seam_49 : decode cX8_seam 49 = .ok (.ireturn, 1) := by decide +kernel
theorem dX8_seam_50 : decode cX8_seam 50 = .ok (.aload_n 0, 1) := by decide +kernel
theorem dX8_seam_51 : decode cX8_seam 51 = .ok (.getfield 50, 3) := by decide +kernel
theorem dX8_seam_54 : decode cX8_seam 54 = .ok (.iload_n 3, 1) := by decide +kernel
theorem dX8_seam_55 : decode cX8_seam 55 = .ok (.aload_n 0, 1) := by decide +kernel
theorem dX8_seam_56 : decode cX8_seam 56 = .ok (.getfield 19, 3) := by decide +kernel
theorem dX8_seam_59 : decode cX8_seam 59 = .ok (.aload 5, 2) := by decide +kernel
theorem dX8_seam_61 : decode cX8_seam 61 = .ok (.aload_n 0, 1) := by decide +kernel
theorem dX8_seam_62 : decode cX8_seam 62 = .ok (.getfield 70, 3) := by decide +kernel
theorem dX8_seam_65 : decode cX8_seam 65 = .ok (.invokevirtual 152, 3) := by decide +kernel
theorem dX8_seam_68 : decode cX8_seam 68 = .ok (.aload_n 0, 1) := by decide +kernel
theorem dX8_seam_69 : decode cX8_seam 69 = .ok (.getfield 50, 3) := by decide +kernel
theorem dX8_seam_72 : decode cX8_seam 72 = .ok (.iload_n 3, 1) := by decide +kernel
theorem dX8_seam_73 : decode cX8_seam 73 = .ok (.aload_n 0, 1) := by decide +kernel
theorem dX8_seam_74 : decode cX8_seam 74 = .ok (.getfield 19, 3) := by decide +kernel
theorem dX8_seam_77 : decode cX8_seam 77 = .ok (.aload 6, 2) := by decide +kernel
theorem dX8_seam_79 : decode cX8_seam 79 = .ok (.aload_n 0, 1) := by decide +kernel
theorem dX8_seam_80 : decode cX8_seam 80 = .ok (.getfield 73, 3) := by decide +kernel
theorem dX8_seam_83 : decode cX8_seam 83 = .ok (.invokevirtual 152, 3) := by decide +kernel
theorem dX8_seam_86 : decode cX8_seam 86 = .ok (.aload_n 0, 1) := by decide +kernel
theorem dX8_seam_87 : decode cX8_seam 87 = .ok (.getfield 50, 3) := by decide +kernel
theorem dX8_seam_90 : decode cX8_seam 90 = .ok (.iload_n 3, 1) := by decide +kernel
theorem dX8_seam_91 : decode cX8_seam 91 = .ok (.aload_n 0, 1) := by decide +kernel
theorem dX8_seam_92 : decode cX8_seam 92 = .ok (.getfield 19, 3) := by decide +kernel
theorem dX8_seam_95 : decode cX8_seam 95 = .ok (.aload 5, 2) := by decide +kernel
theorem dX8_seam_97 : decode cX8_seam 97 = .ok (.aload 6, 2) := by decide +kernel
theorem dX8_seam_99 : decode cX8_seam 99 = .ok (.aload_n 0, 1) := by decide +kernel
theorem dX8_seam_100 : decode cX8_seam 100 = .ok (.getfield 66, 3) := by decide +kernel
theorem dX8_seam_103 : decode cX8_seam 103 = .ok (.invokevirtual 183, 3) := by decide +kernel
theorem dX8_seam_106 : decode cX8_seam 106 = .ok (.aload_n 0, 1) := by decide +kernel
theorem dX8_seam_107 : decode cX8_seam 107 = .ok (.getfield 66, 3) := by decide +kernel
theorem dX8_seam_110 : decode cX8_seam 110 = .ok (.aload_n 0, 1) := by decide +kernel
theorem dX8_seam_111 : decode cX8_seam 111 = .ok (.getfield 70, 3) := by decide +kernel
theorem dX8_seam_114 : decode cX8_seam 114 = .ok (.invokevirtual 187, 3) := by decide +kernel
theorem dX8_seam_117 : decode cX8_seam 117 = .ok (.istore 7, 2) := by decide +kernel
theorem dX8_seam_119 : decode cX8_seam 119 = .ok (.aload_n 0, 1) := by decide +kernel
theorem dX8_seam_120 : decode cX8_seam 120 = .ok (.getfield 66, 3) := by decide +kernel
theorem dX8_seam_123 : decode cX8_seam 123 = .ok (.aload_n 0, 1) := by decide +kernel
theorem dX8_seam_124 : decode cX8_seam 124 = .ok (.getfield 73, 3) := by decide +kernel
theorem dX8_seam_127 : decode cX8_seam 127 = .ok (.invokevirtual 190, 3) := by decide +kernel
theorem dX8_seam_130 : decode cX8_seam 130 = .ok (.aload_n 0, 1) := by decide +kernel
theorem dX8_seam_131 : decode cX8_seam 131 = .ok (.getfield 66, 3) := by decide +kernel
theorem dX8_seam_134 : decode cX8_seam 134 = .ok (.invokevirtual 84, 3) := by decide +kernel
theorem dX8_seam_137 : decode cX8_seam 137 = .ok (.iload 7, 2) := by decide +kernel
theorem dX8_seam_139 : decode cX8_seam 139 = .ok (.isub, 1) := by decide +kernel
theorem dX8_seam_140 : decode cX8_seam 140 = .ok (.invokestatic 193, 3) := by decide +kernel
theorem dX8_seam_143 : decode cX8_seam 143 = .ok (.istore 8, 2) := by decide +kernel
theorem dX8_seam_145 : decode cX8_seam 145 = .ok (.iload 4, 2) := by decide +kernel
theorem dX8_seam_147 : decode cX8_seam 147 = .ok (.ifCond .ne 6, 3) := by decide +kernel
theorem dX8_seam_150 : decode cX8_seam 150 = .ok (.iload 7, 2) := by decide +kernel
theorem dX8_seam_152 : decode cX8_seam 152 = .ok (.ireturn, 1) := by decide +kernel
theorem dX8_seam_153 : decode cX8_seam 153 = .ok (.iload 4, 2) := by decide +kernel
theorem dX8_seam_155 : decode cX8_seam 155 = .ok (.iconst 1, 1) := by decide +kernel
theorem dX8_seam_156 : decode cX8_seam 156 = .ok (.if_icmp .ne 8, 3) := by decide +kernel
theorem dX8_seam_159 : decode cX8_seam 159 = .ok (.iload 8, 2) := by decide +kernel
theorem dX8_seam_161 : decode cX8_seam 161 = .ok (.goto 16, 3) := by decide +kernel
theorem dX8_seam_164 : decode cX8_seam 164 = .ok (.aload_n 0, 1) := by decide +kernel
theorem dX8_seam_165 : decode cX8_seam 165 = .ok (.getfield 66, 3) := by decide +kernel
theorem dX8_seam_168 : decode cX8_seam 168 = .ok (.invokevirtual 84, 3) := by decide +kernel
theorem dX8_seam_171 : decode cX8_seam 171 = .ok (.iload 7, 2) := by decide +kernel
theorem dX8_seam_173 : decode cX8_seam 173 = .ok (.isub, 1) := by decide +kernel
theorem dX8_seam_174 : decode cX8_seam 174 = .ok (.iload 8, 2) := by decide +kernel
theorem dX8_seam_176 : decode cX8_seam 176 = .ok (.isub, 1) := by decide +kernel
theorem dX8_seam_177 : decode cX8_seam 177 = .ok (.ireturn, 1) := by decide +kernel
theorem dX8_spellings_0 : decode cX8_spellings 0 = .ok (.aload_n 0, 1) := by decide +kernel
theorem dX8_spellings_1 : decode cX8_spellings 1 = .ok (.getfield 29, 3) := by decide +kernel
theorem dX8_spellings_4 : decode cX8_spellings 4 = .ok (.iload_n 1, 1) := by decide +kernel
theorem dX8_spellings_5 : decode cX8_spellings 5 = .ok (.invokevirtual 131, 3) := by decide +kernel
theorem dX8_spellings_8 : decode cX8_spellings 8 = .ok (.astore_n 2, 1) := by decide +kernel
theorem dX8_spellings_9 : decode cX8_spellings 9 = .ok (.aload_n 2, 1) := by decide +kernel
theorem dX8_spellings_10 : decode cX8_spellings 10 = .ok (.ifnonnull 7, 3) := by decide +kernel
theorem dX8_spellings_13 : decode cX8_spellings 13 = .ok (.ldc2_w 198, 3) := by decide +kernel
theorem dX8_spellings_16 : decode cX8_spellings 16 = .ok (.lreturn, 1) := by decide +kernel
theorem dX8_spellings_17 : decode cX8_spellings 17 = .ok (.aload_n 0, 1) := by decide +kernel
theorem dX8_spellings_18 : decode cX8_spellings 18 = .ok (.getfield 50, 3) := by decide +kernel
theorem dX8_spellings_21 : decode cX8_spellings 21 = .ok (.iconst 0, 1) := by decide +kernel
theorem dX8_spellings_22 : decode cX8_spellings 22 = .ok (.aload_n 0, 1) := by decide +kernel
theorem dX8_spellings_23 : decode cX8_spellings 23 = .ok (.getfield 19, 3) := by decide +kernel
theorem dX8_spellings_26 : decode cX8_spellings 26 = .ok (.aload_n 2, 1) := by decide +kernel
theorem dX8_spellings_27 : decode cX8_spellings 27 = .ok (.aload_n 0, 1) := by decide +kernel
theorem dX8_spellings_28 : decode cX8_spellings 28 = .ok (.getfield 66, 3) := by decide +kernel
theorem dX8_spellings_31 : decode cX8_spellings 31 = .ok (.invokevirtual 152, 3) := by decide +kernel
theorem dX8_spellings_34 : decode cX8_spellings 34 = .ok (.aload_n 0, 1) := by decide +kernel
theorem dX8_spellings_35 : decode cX8_spellings 35 = .ok (.getfield 57, 3) := by decide +kernel
theorem dX8_spellings_38 : decode cX8_spellings 38 = .ok (.aload_n 0, 1) := by decide +kernel
theorem dX8_spellings_39 : decode cX8_spellings 39 = .ok (.getfield 66, 3) := by decide +kernel
theorem dX8_spellings_42 : decode cX8_spellings 42 = .ok (.aload_n 0, 1) := by decide +kernel
theorem dX8_spellings_43 : decode cX8_spellings 43 = .ok (.getfield 19, 3) := by decide +kernel
theorem dX8_spellings_46 : decode cX8_spellings 46 = .ok (.invokevirtual 200, 3) := by decide +kernel
theorem dX8_spellings_49 : decode cX8_spellings 49 = .ok (.lreturn, 1) := by decide +kernel
theorem dX8_pipes_0 : decode cX8_pipes 0 = .ok (.iload_n 1, 1) := by decide +kernel
theorem dX8_pipes_1 : decode cX8_pipes 1 = .ok (.invokestatic 149, 3) := by decide +kernel
theorem dX8_pipes_4 : decode cX8_pipes 4 = .ok (.ifCond .ne 5, 3) := by decide +kernel
theorem dX8_pipes_7 : decode cX8_pipes 7 = .ok (.iconst (-1), 1) := by decide +kernel
theorem dX8_pipes_8 : decode cX8_pipes 8 = .ok (.ireturn, 1) := by decide +kernel
theorem dX8_pipes_9 : decode cX8_pipes 9 = .ok (.aload_n 0, 1) := by decide +kernel
theorem dX8_pipes_10 : decode cX8_pipes 10 = .ok (.getfield 29, 3) := by decide +kernel
theorem dX8_pipes_13 : decode cX8_pipes 13 = .ok (.invokevirtual 204, 3) := by decide +kernel
theorem dX8_pipes_16 : decode cX8_pipes 16 = .ok (.astore_n 2, 1) := by decide +kernel
theorem dX8_pipes_17 : decode cX8_pipes 17 = .ok (.aload_n 2, 1) := by decide +kernel
theorem dX8_pipes_18 : decode cX8_pipes 18 = .ok (.iload_n 1, 1) := by decide +kernel
theorem dX8_pipes_19 : decode cX8_pipes 19 = .ok (.invokevirtual 80, 3) := by decide +kernel
theorem dX8_pipes_22 : decode cX8_pipes 22 = .ok (.ifCond .eq 10, 3) := by decide +kernel
theorem dX8_pipes_25 : decode cX8_pipes 25 = .ok (.aload_n 2, 1) := by decide +kernel
theorem dX8_pipes_26 : decode cX8_pipes 26 = .ok (.invokevirtual 84, 3) := by decide +kernel
theorem dX8_pipes_29 : decode cX8_pipes 29 = .ok (.goto 5, 3) := by decide +kernel
theorem dX8_pipes_32 : decode cX8_pipes 32 = .ok (.bipush (-3), 2) := by decide +kernel
theorem dX8_pipes_34 : decode cX8_pipes 34 = .ok (.ireturn, 1) := by decide +kernel
theorem dX8_unpipe_0 : decode cX8_unpipe 0 = .ok (.aload_n 0, 1) := by decide +kernel
theorem dX8_unpipe_1 : decode cX8_unpipe 1 = .ok (.getfield 29, 3) := by decide +kernel
theorem dX8_unpipe_4 : decode cX8_unpipe 4 = .ok (.invokevirtual 204, 3) := by decide +kernel
theorem dX8_unpipe_7 : decode cX8_unpipe 7 = .ok (.astore_n 1, 1) := by decide +kernel
theorem dX8_unpipe_8 : decode cX8_unpipe 8 = .ok (.aload_n 1, 1) := by decide +kernel
theorem dX8_unpipe_9 : decode cX8_unpipe 9 = .ok (.invokevirtual 84, 3) := by decide +kernel
theorem dX8_unpipe_12 : decode cX8_unpipe 12 = .ok (.istore_n 2, 1) := by decide +kernel
theorem dX8_unpipe_13 : decode cX8_unpipe 13 = .ok (.aload_n 1, 1) := by decide +kernel
theorem dX8_unpipe_14 : decode cX8_unpipe 14 = .ok (.invokevirtual 88, 3) := by decide +kernel
theorem dX8_unpipe_17 : decode cX8_unpipe 17 = .ok (.iload_n 2, 1) := by decide +kernel
theorem dX8_unpipe_18 : decode cX8_unpipe 18 = .ok (.ireturn, 1) := by decide +kernel
theorem dX8_piped_0 : decode cX8_piped 0 = .ok (.aload_n 0, 1) := by decide +kernel
theorem dX8_piped_1 : decode cX8_piped 1 = .ok (.getfield 29, 3) := by decide +kernel
theorem dX8_piped_4 : decode cX8_piped 4 = .ok (.iload_n 1, 1) := by decide +kernel
theorem dX8_piped_5 : decode cX8_piped 5 = .ok (.invokevirtual 131, 3) := by decide +kernel
theorem dX8_piped_8 : decode cX8_piped 8 = .ok (.astore_n 3, 1) := by decide +kernel
theorem dX8_piped_9 : decode cX8_piped 9 = .ok (.aload_n 3, 1) := by decide +kernel
theorem dX8_piped_10 : decode cX8_piped 10 = .ok (.ifnonnull 5, 3) := by decide +kernel
theorem dX8_piped_13 : decode cX8_piped 13 = .ok (.iconst (-1), 1) := by decide +kernel
theorem dX8_piped_14 : decode cX8_piped 14 = .ok (.ireturn, 1) := by decide +kernel
theorem dX8_piped_15 : decode cX8_piped 15 = .ok (.aload_n 0, 1) := by decide +kernel
theorem dX8_piped_16 : decode cX8_piped 16 = .ok (.getfield 66, 3) := by decide +kernel
theorem dX8_piped_19 : decode cX8_piped 19 = .ok (.aload_n 3, 1) := by decide +kernel
theorem dX8_piped_20 : decode cX8_piped 20 = .ok (.invokevirtual 156, 3) := by decide +kernel
theorem dX8_piped_23 : decode cX8_piped 23 = .ok (.aload_n 0, 1) := by decide +kernel
theorem dX8_piped_24 : decode cX8_piped 24 = .ok (.getfield 50, 3) := by decide +kernel
theorem dX8_piped_27 : decode cX8_piped 27 = .ok (.aload_n 0, 1) := by decide +kernel
theorem dX8_piped_28 : decode cX8_piped 28 = .ok (.getfield 29, 3) := by decide +kernel
theorem dX8_piped_31 : decode cX8_piped 31 = .ok (.invokevirtual 204, 3) := by decide +kernel
theorem dX8_piped_34 : decode cX8_piped 34 = .ok (.aload_n 0, 1) := by decide +kernel
theorem dX8_piped_35 : decode cX8_piped 35 = .ok (.getfield 19, 3) := by decide +kernel
theorem dX8_piped_38 : decode cX8_piped 38 = .ok (.aload_n 0, 1) := by decide +kernel
theorem dX8_piped_39 : decode cX8_piped 39 = .ok (.getfield 66, 3) := by decide +kernel
theorem dX8_piped_42 : decode cX8_piped 42 = .ok (.invokevirtual 207, 3) := by decide +kernel
theorem dX8_piped_45 : decode cX8_piped 45 = .ok (.aload_n 0, 1) := by decide +kernel
theorem dX8_piped_46 : decode cX8_piped 46 = .ok (.getfield 66, 3) := by decide +kernel
theorem dX8_piped_49 : decode cX8_piped 49 = .ok (.iload_n 2, 1) := by decide +kernel
theorem dX8_piped_50 : decode cX8_piped 50 = .ok (.invokestatic 168, 3) := by decide +kernel
theorem dX8_piped_53 : decode cX8_piped 53 = .ok (.ireturn, 1) := by decide +kernel
theorem dX8_fixed_0 : decode cX8_fixed 0 = .ok (.aload_n 0, 1) := by decide +kernel
theorem dX8_fixed_1 : decode cX8_fixed 1 = .ok (.getfield 29, 3) := by decide +kernel
theorem dX8_fixed_4 : decode cX8_fixed 4 = .ok (.iload_n 1, 1) := by decide +kernel
theorem dX8_fixed_5 : decode cX8_fixed 5 = .ok (.invokevirtual 131, 3) := by decide +kernel
theorem dX8_fixed_8 : decode cX8_fixed 8 = .ok (.astore_n 2, 1) := by decide +kernel
theorem dX8_fixed_9 : decode cX8_fixed 9 = .ok (.aload_n 2, 1) := by decide +kernel
theorem dX8_fixed_10 : decode cX8_fixed 10 = .ok (.ifnonnull 5, 3) := by decide +kernel
theorem dX8_fixed_13 : decode cX8_fixed 13 = .ok (.iconst (-1), 1) := by decide +kernel
theorem dX8_fixed_14 : decode cX8_fixed 14 = .ok (.ireturn, 1) := by decide +kernel
theorem dX8_fixed_15 : decode cX8_fixed 15 = .ok (.aload_n 0, 1) := by decide +kernel
theorem dX8_fixed_16 : decode cX8_fixed 16 = .ok (.getfield 66, 3) := by decide +kernel
theorem dX8_fixed_19 : decode cX8_fixed 19 = .ok (.aload_n 2, 1) := by decide +kernel
theorem dX8_fixed_20 : decode cX8_fixed 20 = .ok (.invokevirtual 156, 3) := by decide +kernel
theorem dX8_fixed_23 : decode cX8_fixed 23 = .ok (.iconst 0, 1) := by decide +kernel
theorem dX8_fixed_24 : decode cX8_fixed 24 = .ok (.istore_n 3, 1) := by decide +kernel
theorem dX8_fixed_25 : decode cX8_fixed 25 = .ok (.iload_n 3, 1) := by decide +kernel
theorem dX8_fixed_26 : decode cX8_fixed 26 = .ok (.bipush 9, 2) := by decide +kernel
theorem dX8_fixed_28 : decode cX8_fixed 28 = .ok (.if_icmp .gt 58, 3) := by decide +kernel
theorem dX8_fixed_31 : decode cX8_fixed 31 = .ok (.aload_n 0, 1) := by decide +kernel
theorem dX8_fixed_32 : decode cX8_fixed 32 = .ok (.getfield 70, 3) := by decide +kernel
theorem dX8_fixed_35 : decode cX8_fixed 35 = .ok (.aload_n 0, 1) := by decide +kernel
theorem dX8_fixed_36 : decode cX8_fixed 36 = .ok (.getfield 66, 3) := by decide +kernel
theorem dX8_fixed_39 : decode cX8_fixed 39 = .ok (.invokevirtual 156, 3) := by decide +kernel
theorem dX8_fixed_42 : decode cX8_fixed 42 = .ok (.aload_n 0, 1) := by decide +kernel
theorem dX8_fixed_43 : decode cX8_fixed 43 = .ok (.getfield 50, 3) := by decide +kernel
theorem dX8_fixed_46 : decode cX8_fixed 46 = .ok (.aload_n 0, 1) := by decide +kernel
theorem dX8_fixed_47 : decode cX8_fixed 47 = .ok (.getfield 29, 3) := by decide +kernel
theorem dX8_fixed_50 : decode cX8_fixed 50 = .ok (.invokevirtual 204, 3) := by decide +kernel
theorem dX8_fixed_53 : decode cX8_fixed 53 = .ok (.aload_n 0, 1) := by decide +kernel
theorem dX8_fixed_54 : decode cX8_fixed 54 = .ok (.getfield 19, 3) := by decide +kernel
theorem dX8_fixed_57 : decode cX8_fixed 57 = .ok (.aload_n 0, 1) := by decide +kernel
theorem dX8_fixed_58 : decode cX8_fixed 58 = .ok (.getfield 66, 3) := by decide +kernel
theorem dX8_fixed_61 : decode cX8_fixed 61 = .ok (.invokevirtual 207, 3) := by decide +kernel
theorem dX8_fixed_64 : decode cX8_fixed 64 = .ok (.aload_n 0, 1) := by decide +kernel
theorem dX8_fixed_65 : decode cX8_fixed 65 = .ok (.getfield 66, 3) := by decide +kernel
theorem dX8_fixed_68 : decode cX8_fixed 68 = .ok (.aload_n 0, 1) := by decide +kernel
theorem dX8_fixed_69 : decode cX8_fixed 69 = .ok (.getfield 70, 3) := by decide +kernel
theorem dX8_fixed_72 : decode cX8_fixed 72 = .ok (.invokevirtual 179, 3) := by decide +kernel
theorem dX8_fixed_75 : decode cX8_fixed 75 = .ok (.ifCond .eq 5, 3) := by decide +kernel
theorem dX8_fixed_78 : decode cX8_fixed 78 = .ok (.iload_n 3, 1) := by decide +kernel
theorem dX8_fixed_79 : decode cX8_fixed 79 = .ok (.ireturn, 1) := by decide +kernel
theorem dX8_fixed_80 : decode cX8_fixed 80 = .ok (.iinc 3 1, 3) := by decide +kernel
theorem dX8_fixed_83 : decode cX8_fixed 83 = .ok (.goto (-58), 3) := by decide +kernel
theorem dX8_fixed_86 : decode cX8_fixed 86 = .ok (.bipush (-9), 2) := by decide +kernel
theorem dX8_fixed_88 : decode cX8_fixed 88 = .ok (.ireturn, 1) := by decide +kernel
theorem dX8_keep_0 : decode cX8_keep 0 = .ok (.aload_n 0, 1) := by decide +kernel
theorem dX8_keep_1 : decode cX8_keep 1 = .ok (.getfield 36, 3) := by decide +kernel
theorem dX8_keep_4 : decode cX8_keep 4 = .ok (.iload_n 1, 1) := by decide +kernel
theorem dX8_keep_5 : decode cX8_keep 5 = .ok (.aload_n 0, 1) := by decide +kernel
theorem dX8_keep_6 : decode cX8_keep 6 = .ok (.getfield 29, 3) := by decide +kernel
theorem dX8_keep_9 : decode cX8_keep 9 = .ok (.invokevirtual 211, 3) := by decide +kernel
theorem dX8_keep_12 : decode cX8_keep 12 = .ok (.ifCond .eq 13, 3) := by decide +kernel
theorem dX8_keep_15 : decode cX8_keep 15 = .ok (.aload_n 0, 1) := by decide +kernel
theorem dX8_keep_16 : decode cX8_keep 16 = .ok (.getfield 29, 3) := by decide +kernel
theorem dX8_keep_19 : decode cX8_keep 19 = .ok (.invokevirtual 215, 3) := by decide +kernel
theorem dX8_keep_22 : decode cX8_keep 22 = .ok (.goto 4, 3) := by decide +kernel
theorem dX8_keep_25 : decode cX8_keep 25 = .ok (.iconst (-1), 1) := by decide +kernel
theorem dX8_keep_26 : decode cX8_keep 26 = .ok (.ireturn, 1) := by decide +kernel
theorem dX8_back_0 : decode cX8_back 0 = .ok (.aload_n 0, 1) := by decide +kernel
theorem dX8_back_1 : decode cX8_back 1 = .ok (.getfield 36, 3) := by decide +kernel
theorem dX8_back_4 : decode cX8_back 4 = .ok (.iload_n 1, 1) := by decide +kernel
theorem dX8_back_5 : decode cX8_back 5 = .ok (.invokevirtual 218, 3) := by decide +kernel
theorem dX8_back_8 : decode cX8_back 8 = .ok (.astore_n 2, 1) := by decide +kernel
theorem dX8_back_9 : decode cX8_back 9 = .ok (.aload_n 2, 1) := by decide +kernel
theorem dX8_back_10 : decode cX8_back 10 = .ok (.ifnonnull 5, 3) := by decide +kernel
theorem dX8_back_13 : decode cX8_back 13 = .ok (.iconst (-1), 1) := by decide +kernel
theorem dX8_back_14 : decode cX8_back 14 = .ok (.ireturn, 1) := by decide +kernel
theorem dX8_back_15 : decode cX8_back 15 = .ok (.aload_n 0, 1) := by decide +kernel
theorem dX8_back_16 : decode cX8_back 16 = .ok (.getfield 36, 3) := by decide +kernel
theorem dX8_back_19 : decode cX8_back 19 = .ok (.iload_n 1, 1) := by decide +kernel
theorem dX8_back_20 : decode cX8_back 20 = .ok (.invokevirtual 222, 3) := by decide +kernel
theorem dX8_back_23 : decode cX8_back 23 = .ok (.ifCond .ne 6, 3) := by decide +kernel
theorem dX8_back_26 : decode cX8_back 26 = .ok (.bipush (-2), 2) := by decide +kernel
theorem dX8_back_28 : decode cX8_back 28 = .ok (.ireturn, 1) := by decide +kernel
theorem dX8_back_29 : decode cX8_back 29 = .ok (.aload_n 0, 1) := by decide +kernel
theorem dX8_back_30 : decode cX8_back 30 = .ok (.getfield 29, 3) := by decide +kernel
theorem dX8_back_33 : decode cX8_back 33 = .ok (.aload_n 2, 1) := by decide +kernel
theorem dX8_back_34 : decode cX8_back 34 = .ok (.invokevirtual 225, 3) := by decide +kernel
theorem dX8_back_37 : decode cX8_back 37 = .ok (.aload_n 0, 1) := by decide +kernel
theorem dX8_back_38 : decode cX8_back 38 = .ok (.getfield 43, 3) := by decide +kernel
theorem dX8_back_41 : decode cX8_back 41 = .ok (.invokevirtual 99, 3) := by decide +kernel
theorem dX8_back_44 : decode cX8_back 44 = .ok (.aload_n 0, 1) := by decide +kernel
theorem dX8_back_45 : decode cX8_back 45 = .ok (.getfield 29, 3) := by decide +kernel
theorem dX8_back_48 : decode cX8_back 48 = .ok (.invokevirtual 215, 3) := by decide +kernel
theorem dX8_back_51 : decode cX8_back 51 = .ok (.ireturn, 1) := by decide +kernel
theorem dX8_count_0 : decode cX8_count 0 = .ok (.iload_n 1, 1) := by decide +kernel
theorem dX8_count_1 : decode cX8_count 1 = .ok (.tableswitch 120 0 7 #[47, 55, 63, 72, 81, 90, 101, 109], 47) := by decide +kernel
theorem dX8_count_48 : decode cX8_count 48 = .ok (.aload_n 0, 1) := by decide +kernel
theorem dX8_count_49 : decode cX8_count 49 = .ok (.getfield 19, 3) := by decide +kernel
theorem dX8_count_52 : decode cX8_count 52 = .ok (.invokevirtual 102, 3) := by decide +kernel
theorem dX8_count_55 : decode cX8_count 55 = .ok (.ireturn, 1) := by decide +kernel
theorem dX8_count_56 : decode cX8_count 56 = .ok (.aload_n 0, 1) := by decide +kernel
theorem dX8_count_57 : decode cX8_count 57 = .ok (.getfield 19, 3) := by decide +kernel
theorem dX8_count_60 : decode cX8_count 60 = .ok (.invokevirtual 228, 3) := by decide +kernel
theorem dX8_count_63 : decode cX8_count 63 = .ok (.ireturn, 1) := by decide +kernel
theorem dX8_count_64 : decode cX8_count 64 = .ok (.aload_n 0, 1) := by decide +kernel
theorem dX8_count_65 : decode cX8_count 65 = .ok (.getfield 19, 3) := by decide +kernel
theorem dX8_count_68 : decode cX8_count 68 = .ok (.iconst 1, 1) := by decide +kernel
theorem dX8_count_69 : decode cX8_count 69 = .ok (.invokevirtual 231, 3) := by decide +kernel
theorem dX8_count_72 : decode cX8_count 72 = .ok (.ireturn, 1) := by decide +kernel
theorem dX8_count_73 : decode cX8_count 73 = .ok (.aload_n 0, 1) := by decide +kernel
theorem dX8_count_74 : decode cX8_count 74 = .ok (.getfield 19, 3) := by decide +kernel
theorem dX8_count_77 : decode cX8_count 77 = .ok (.iconst 2, 1) := by decide +kernel
theorem dX8_count_78 : decode cX8_count 78 = .ok (.invokevirtual 231, 3) := by decide +kernel
theorem dX8_count_81 : decode cX8_count 81 = .ok (.ireturn, 1) := by decide +kernel
theorem dX8_count_82 : decode cX8_count 82 = .ok (.aload_n 0, 1) := by decide +kernel
theorem dX8_count_83 : decode cX8_count 83 = .ok (.getfield 19, 3) := by decide +kernel
theorem dX8_count_86 : decode cX8_count 86 = .ok (.iconst 3, 1) := by decide +kernel
theorem dX8_count_87 : decode cX8_count 87 = .ok (.invokevirtual 231, 3) := by decide +kernel
theorem dX8_count_90 : decode cX8_count 90 = .ok (.ireturn, 1) := by decide +kernel
theorem dX8_count_91 : decode cX8_count 91 = .ok (.aload_n 0, 1) := by decide +kernel
theorem dX8_count_92 : decode cX8_count 92 = .ok (.getfield 29, 3) := by decide +kernel
theorem dX8_count_95 : decode cX8_count 95 = .ok (.invokevirtual 204, 3) := by decide +kernel
theorem dX8_count_98 : decode cX8_count 98 = .ok (.invokevirtual 84, 3) := by decide +kernel
theorem dX8_count_101 : decode cX8_count 101 = .ok (.ireturn, 1) := by decide +kernel
theorem dX8_count_102 : decode cX8_count 102 = .ok (.aload_n 0, 1) := by decide +kernel
theorem dX8_count_103 : decode cX8_count 103 = .ok (.getfield 43, 3) := by decide +kernel
theorem dX8_count_106 : decode cX8_count 106 = .ok (.invokevirtual 165, 3) := by decide +kernel
theorem dX8_count_109 : decode cX8_count 109 = .ok (.ireturn, 1) := by decide +kernel
theorem dX8_count_110 : decode cX8_count 110 = .ok (.aload_n 0, 1) := by decide +kernel
theorem dX8_count_111 : decode cX8_count 111 = .ok (.getfield 12, 3) := by decide +kernel
theorem dX8_count_114 : decode cX8_count 114 = .ok (.invokevirtual 76, 3) := by decide +kernel
theorem dX8_count_117 : decode cX8_count 117 = .ok (.invokevirtual 84, 3) := by decide +kernel
theorem dX8_count_120 : decode cX8_count 120 = .ok (.ireturn, 1) := by decide +kernel
theorem dX8_count_121 : decode cX8_count 121 = .ok (.iconst (-1), 1) := by decide +kernel
theorem dX8_count_122 : decode cX8_count 122 = .ok (.ireturn, 1) := by decide +kernel
theorem dX8_isRule_0 : decode cX8_isRule 0 = .ok (.iload_n 0, 1) := by decide +kernel
theorem dX8_isRule_1 : decode cX8_isRule 1 = .ok (.ifCond .lt 12, 3) := by decide +kernel
theorem dX8_isRule_4 : decode cX8_isRule 4 = .ok (.iload_n 0, 1) := by decide +kernel
theorem dX8_isRule_5 : decode cX8_isRule 5 = .ok (.iconst 5, 1) := by decide +kernel
theorem dX8_isRule_6 : decode cX8_isRule 6 = .ok (.if_icmp .gt 7, 3) := by decide +kernel
theorem dX8_isRule_9 : decode cX8_isRule 9 = .ok (.iconst 1, 1) := by decide +kernel
theorem dX8_isRule_10 : decode cX8_isRule 10 = .ok (.goto 4, 3) := by decide +kernel
theorem dX8_isRule_13 : decode cX8_isRule 13 = .ok (.iconst 0, 1) := by decide +kernel
theorem dX8_isRule_14 : decode cX8_isRule 14 = .ok (.ireturn, 1) := by decide +kernel
theorem dX8_look_0 : decode cX8_look 0 = .ok (.iload_n 1, 1) := by decide +kernel
theorem dX8_look_1 : decode cX8_look 1 = .ok (.iconst (-1), 1) := by decide +kernel
theorem dX8_look_2 : decode cX8_look 2 = .ok (.if_icmp .ne 8, 3) := by decide +kernel
theorem dX8_look_5 : decode cX8_look 5 = .ok (.aload_n 0, 1) := by decide +kernel
theorem dX8_look_6 : decode cX8_look 6 = .ok (.invokevirtual 84, 3) := by decide +kernel
theorem dX8_look_9 : decode cX8_look 9 = .ok (.ireturn, 1) := by decide +kernel
theorem dX8_look_10 : decode cX8_look 10 = .ok (.aload_n 0, 1) := by decide +kernel
theorem dX8_look_11 : decode cX8_look 11 = .ok (.iload_n 1, 1) := by decide +kernel
theorem dX8_look_12 : decode cX8_look 12 = .ok (.invokevirtual 234, 3) := by decide +kernel
theorem dX8_look_15 : decode cX8_look 15 = .ok (.ifCond .eq 11, 3) := by decide +kernel
theorem dX8_look_18 : decode cX8_look 18 = .ok (.aload_n 0, 1) := by decide +kernel
theorem dX8_look_19 : decode cX8_look 19 = .ok (.iload_n 1, 1) := by decide +kernel
theorem dX8_look_20 : decode cX8_look 20 = .ok (.invokevirtual 139, 3) := by decide +kernel
theorem dX8_look_23 : decode cX8_look 23 = .ok (.goto 4, 3) := by decide +kernel
theorem dX8_look_26 : decode cX8_look 26 = .ok (.iconst (-1), 1) := by decide +kernel
theorem dX8_look_27 : decode cX8_look 27 = .ok (.ireturn, 1) := by decide +kernel
theorem dX8_quickApart_0 : decode cX8_quickApart 0 = .ok (.iconst 0, 1) := by decide +kernel
theorem dX8_quickApart_1 : decode cX8_quickApart 1 = .ok (.istore_n 2, 1) := by decide +kernel
theorem dX8_quickApart_2 : decode cX8_quickApart 2 = .ok (.iload_n 2, 1) := by decide +kernel
theorem dX8_quickApart_3 : decode cX8_quickApart 3 = .ok (.aload_n 1, 1) := by decide +kernel
theorem dX8_quickApart_4 : decode cX8_quickApart 4 = .ok (.invokevirtual 84, 3) := by decide +kernel
theorem dX8_quickApart_7 : decode cX8_quickApart 7 = .ok (.if_icmp .ge 26, 3) := by decide +kernel
theorem dX8_quickApart_10 : decode cX8_quickApart 10 = .ok (.aload_n 0, 1) := by decide +kernel
theorem dX8_quickApart_11 : decode cX8_quickApart 11 = .ok (.getfield 19, 3) := by decide +kernel
theorem dX8_quickApart_14 : decode cX8_quickApart 14 = .ok (.aload_n 1, 1) := by decide +kernel
theorem dX8_quickApart_15 : decode cX8_quickApart 15 = .ok (.iload_n 2, 1) := by decide +kernel
theorem dX8_quickApart_16 : decode cX8_quickApart 16 = .ok (.invokevirtual 139, 3) := by decide +kernel
theorem dX8_quickApart_19 : decode cX8_quickApart 19 = .ok (.invokevirtual 112, 3) := by decide +kernel
theorem dX8_quickApart_22 : decode cX8_quickApart 22 = .ok (.ifCond .eq 5, 3) := by decide +kernel
theorem dX8_quickApart_25 : decode cX8_quickApart 25 = .ok (.iconst 0, 1) := by decide +kernel
theorem dX8_quickApart_26 : decode cX8_quickApart 26 = .ok (.ireturn, 1) := by decide +kernel
theorem dX8_quickApart_27 : decode cX8_quickApart 27 = .ok (.iinc 2 1, 3) := by decide +kernel
theorem dX8_quickApart_30 : decode cX8_quickApart 30 = .ok (.goto (-28), 3) := by decide +kernel
theorem dX8_quickApart_33 : decode cX8_quickApart 33 = .ok (.aload_n 0, 1) := by decide +kernel
theorem dX8_quickApart_34 : decode cX8_quickApart 34 = .ok (.getfield 50, 3) := by decide +kernel
theorem dX8_quickApart_37 : decode cX8_quickApart 37 = .ok (.aload_n 0, 1) := by decide +kernel
theorem dX8_quickApart_38 : decode cX8_quickApart 38 = .ok (.getfield 19, 3) := by decide +kernel
theorem dX8_quickApart_41 : decode cX8_quickApart 41 = .ok (.aload_n 1, 1) := by decide +kernel
theorem dX8_quickApart_42 : decode cX8_quickApart 42 = .ok (.invokevirtual 237, 3) := by decide +kernel
theorem dX8_quickApart_45 : decode cX8_quickApart 45 = .ok (.ifCond .eq 7, 3) := by decide +kernel
theorem dX8_quickApart_48 : decode cX8_quickApart 48 = .ok (.iconst 1, 1) := by decide +kernel
theorem dX8_quickApart_49 : decode cX8_quickApart 49 = .ok (.goto 4, 3) := by decide +kernel
theorem dX8_quickApart_52 : decode cX8_quickApart 52 = .ok (.iconst 0, 1) := by decide +kernel
theorem dX8_quickApart_53 : decode cX8_quickApart 53 = .ok (.ireturn, 1) := by decide +kernel
theorem dX8_quickJoined_0 : decode cX8_quickJoined 0 = .ok (.iconst 0, 1) := by decide +kernel
theorem dX8_quickJoined_1 : decode cX8_quickJoined 1 = .ok (.istore_n 2, 1) := by decide +kernel
theorem dX8_quickJoined_2 : decode cX8_quickJoined 2 = .ok (.iconst 0, 1) := by decide +kernel
theorem dX8_quickJoined_3 : decode cX8_quickJoined 3 = .ok (.istore_n 3, 1) := by decide +kernel
theorem dX8_quickJoined_4 : decode cX8_quickJoined 4 = .ok (.iload_n 3, 1) := by decide +kernel
theorem dX8_quickJoined_5 : decode cX8_quickJoined 5 = .ok (.aload_n 1, 1) := by decide +kernel
theorem dX8_quickJoined_6 : decode cX8_quickJoined 6 = .ok (.invokevirtual 84, 3) := by decide +kernel
theorem dX8_quickJoined_9 : decode cX8_quickJoined 9 = .ok (.if_icmp .ge 63, 3) := by decide +kernel
theorem dX8_quickJoined_12 : decode cX8_quickJoined 12 = .ok (.aload_n 1, 1) := by decide +kernel
theorem dX8_quickJoined_13 : decode cX8_quickJoined 13 = .ok (.iload_n 3, 1) := by decide +kernel
theorem dX8_quickJoined_14 : decode cX8_quickJoined 14 = .ok (.invokevirtual 139, 3) := by decide +kernel
theorem dX8_quickJoined_17 : decode cX8_quickJoined 17 = .ok (.istore 4, 2) := by decide +kernel
theorem dX8_quickJoined_19 : decode cX8_quickJoined 19 = .ok (.aload_n 0, 1) := by decide +kernel
theorem dX8_quickJoined_20 : decode cX8_quickJoined 20 = .ok (.getfield 19, 3) := by decide +kernel
theorem dX8_quickJoined_23 : decode cX8_quickJoined 23 = .ok (.iload 4, 2) := by decide +kernel
theorem dX8_quickJoined_25 : decode cX8_quickJoined 25 = .ok (.invokevirtual 112, 3) := by decide +kernel
theorem dX8_quickJoined_28 : decode cX8_quickJoined 28 = .ok (.istore 5, 2) := by decide +kernel
theorem dX8_quickJoined_30 : decode cX8_quickJoined 30 = .ok (.iload 5, 2) := by decide +kernel
theorem dX8_quickJoined_32 : decode cX8_quickJoined 32 = .ok (.iconst 2, 1) := by decide +kernel
theorem dX8_quickJoined_33 : decode cX8_quickJoined 33 = .ok (.if_icmp .eq 9, 3) := by decide +kernel
theorem dX8_quickJoined_36 : decode cX8_quickJoined 36 = .ok (.iload 5, 2) := by decide +kernel
theorem dX8_quickJoined_38 : decode cX8_quickJoined 38 = .ok (.iconst 3, 1) := by decide +kernel
theorem dX8_quickJoined_39 : decode cX8_quickJoined 39 = .ok (.if_icmp .ne 5, 3) := by decide +kernel
theorem dX8_quickJoined_42 : decode cX8_quickJoined 42 = .ok (.iconst 0, 1) := by decide +kernel
theorem dX8_quickJoined_43 : decode cX8_quickJoined 43 = .ok (.ireturn, 1) := by decide +kernel
theorem dX8_quickJoined_44 : decode cX8_quickJoined 44 = .ok (.aload_n 0, 1) := by decide +kernel
theorem dX8_quickJoined_45 : decode cX8_quickJoined 45 = .ok (.getfield 19, 3) := by decide +kernel
theorem dX8_quickJoined_48 : decode cX8_quickJoined 48 = .ok (.aload_n 0, 1) := by decide +kernel
theorem dX8_quickJoined_49 : decode cX8_quickJoined 49 = .ok (.getfield 19, 3) := by decide +kernel
theorem dX8_quickJoined_52 : decode cX8_quickJoined 52 = .ok (.iload 4, 2) := by decide +kernel
theorem dX8_quickJoined_54 : decode cX8_quickJoined 54 = .ok (.iconst 0, 1) := by decide +kernel
theorem dX8_quickJoined_55 : decode cX8_quickJoined 55 = .ok (.invokevirtual 124, 3) := by decide +kernel
theorem dX8_quickJoined_58 : decode cX8_quickJoined 58 = .ok (.invokevirtual 241, 3) := by decide +kernel
theorem dX8_quickJoined_61 : decode cX8_quickJoined 61 = .ok (.ifCond .eq 5, 3) := by decide +kernel
theorem dX8_quickJoined_64 : decode cX8_quickJoined 64 = .ok (.iconst 1, 1) := by decide +kernel
theorem dX8_quickJoined_65 : decode cX8_quickJoined 65 = .ok (.istore_n 2, 1) := by decide +kernel
theorem dX8_quickJoined_66 : decode cX8_quickJoined 66 = .ok (.iinc 3 1, 3) := by decide +kernel
theorem dX8_quickJoined_69 : decode cX8_quickJoined 69 = .ok (.goto (-65), 3) := by decide +kernel
theorem dX8_quickJoined_72 : decode cX8_quickJoined 72 = .ok (.aload_n 0, 1) := by decide +kernel
theorem dX8_quickJoined_73 : decode cX8_quickJoined 73 = .ok (.getfield 50, 3) := by decide +kernel
theorem dX8_quickJoined_76 : decode cX8_quickJoined 76 = .ok (.aload_n 0, 1) := by decide +kernel
theorem dX8_quickJoined_77 : decode cX8_quickJoined 77 = .ok (.getfield 19, 3) := by decide +kernel
theorem dX8_quickJoined_80 : decode cX8_quickJoined 80 = .ok (.aload_n 1, 1) := by decide +kernel
theorem dX8_quickJoined_81 : decode cX8_quickJoined 81 = .ok (.invokevirtual 237, 3) := by decide +kernel
theorem dX8_quickJoined_84 : decode cX8_quickJoined 84 = .ok (.ifCond .ne 5, 3) := by decide +kernel
theorem dX8_quickJoined_87 : decode cX8_quickJoined 87 = .ok (.iconst 0, 1) := by decide +kernel
theorem dX8_quickJoined_88 : decode cX8_quickJoined 88 = .ok (.ireturn, 1) := by decide +kernel
theorem dX8_quickJoined_89 : decode cX8_quickJoined 89 = .ok (.iload_n 2, 1) := by decide +kernel
theorem dX8_quickJoined_90 : decode cX8_quickJoined 90 = .ok (.ifCond .eq 7, 3) := by decide +kernel
theorem dX8_quickJoined_93 : decode cX8_quickJoined 93 = .ok (.iconst 2, 1) := by decide +kernel
theorem dX8_quickJoined_94 : decode cX8_quickJoined 94 = .ok (.goto 4, 3) := by decide +kernel
theorem dX8_quickJoined_97 : decode cX8_quickJoined 97 = .ok (.iconst 1, 1) := by decide +kernel
theorem dX8_quickJoined_98 : decode cX8_quickJoined 98 = .ok (.ireturn, 1) := by decide +kernel
end
section
theorem dX9_init_0 : decode cX9_init 0 = .ok (.aload_n 0, 1) := by decide +kernel
theorem dX9_init_1 : decode cX9_init 1 = .ok (.invokespecial 1, 3) := by decide +kernel
theorem dX9_init_4 : decode cX9_init 4 = .ok (.aload_n 0, 1) := by decide +kernel
theorem dX9_init_5 : decode cX9_init 5 = .ok (.bipush 24, 2) := by decide +kernel
theorem dX9_init_7 : decode cX9_init 7 = .ok (.newarray .int, 2) := by decide +kernel
theorem dX9_init_9 : decode cX9_init 9 = .ok (.putfield 7, 3) := by decide +kernel
theorem dX9_init_12 : decode cX9_init 12 = .ok (.aload_n 0, 1) := by decide +kernel
theorem dX9_init_13 : decode cX9_init 13 = .ok (.bipush 24, 2) := by decide +kernel
theorem dX9_init_15 : decode cX9_init 15 = .ok (.newarray .int, 2) := by decide +kernel
theorem dX9_init_17 : decode cX9_init 17 = .ok (.putfield 13, 3) := by decide +kernel
theorem dX9_init_20 : decode cX9_init 20 = .ok (.aload_n 0, 1) := by decide +kernel
theorem dX9_init_21 : decode cX9_init 21 = .ok (.bipush 24, 2) := by decide +kernel
theorem dX9_init_23 : decode cX9_init 23 = .ok (.newarray .int, 2) := by decide +kernel
theorem dX9_init_25 : decode cX9_init 25 = .ok (.putfield 16, 3) := by decide +kernel
theorem dX9_init_28 : decode cX9_init 28 = .ok (.aload_n 0, 1) := by decide +kernel
theorem dX9_init_29 : decode cX9_init 29 = .ok (.bipush 24, 2) := by decide +kernel
theorem dX9_init_31 : decode cX9_init 31 = .ok (.newarray .int, 2) := by decide +kernel
theorem dX9_init_33 : decode cX9_init 33 = .ok (.putfield 19, 3) := by decide +kernel
theorem dX9_init_36 : decode cX9_init 36 = .ok (.aload_n 0, 1) := by decide +kernel
theorem dX9_init_37 : decode cX9_init 37 = .ok (.bipush 24, 2) := by decide +kernel
theorem dX9_init_39 : decode cX9_init 39 = .ok (.newarray .int, 2) := by decide +kernel
theorem dX9_init_41 : decode cX9_init 41 = .ok (.putfield 22, 3) := by decide +kernel
theorem dX9_init_44 : decode cX9_init 44 = .ok (.aload_n 0, 1) := by decide +kernel
theorem dX9_init_45 : decode cX9_init 45 = .ok (.bipush 96, 2) := by decide +kernel
theorem dX9_init_47 : decode cX9_init 47 = .ok (.newarray .int, 2) := by decide +kernel
theorem dX9_init_49 : decode cX9_init 49 = .ok (.putfield 25, 3) := by decide +kernel
theorem dX9_init_52 : decode cX9_init 52 = .ok (.aload_n 0, 1) := by decide +kernel
theorem dX9_init_53 : decode cX9_init 53 = .ok (.sipush 150, 3) := by decide +kernel
theorem dX9_init_56 : decode cX9_init 56 = .ok (.newarray .int, 2) := by decide +kernel
theorem dX9_init_58 : decode cX9_init 58 = .ok (.putfield 28, 3) := by decide +kernel
theorem dX9_init_61 : decode cX9_init 61 = .ok (.aload_n 0, 1) := by decide +kernel
theorem dX9_init_62 : decode cX9_init 62 = .ok (.sipush 193, 3) := by decide +kernel
theorem dX9_init_65 : decode cX9_init 65 = .ok (.newarray .int, 2) := by decide +kernel
theorem dX9_init_67 : decode cX9_init 67 = .ok (.putfield 31, 3) := by decide +kernel
theorem dX9_init_70 : decode cX9_init 70 = .ok (.aload_n 0, 1) := by decide +kernel
theorem dX9_init_71 : decode cX9_init 71 = .ok (.iconst 4, 1) := by decide +kernel
theorem dX9_init_72 : decode cX9_init 72 = .ok (.newarray .int, 2) := by decide +kernel
theorem dX9_init_74 : decode cX9_init 74 = .ok (.putfield 34, 3) := by decide +kernel
theorem dX9_init_77 : decode cX9_init 77 = .ok (.aload_n 0, 1) := by decide +kernel
theorem dX9_init_78 : decode cX9_init 78 = .ok (.bipush 64, 2) := by decide +kernel
theorem dX9_init_80 : decode cX9_init 80 = .ok (.newarray .int, 2) := by decide +kernel
theorem dX9_init_82 : decode cX9_init 82 = .ok (.putfield 37, 3) := by decide +kernel
theorem dX9_init_85 : decode cX9_init 85 = .ok (.aload_n 0, 1) := by decide +kernel
theorem dX9_init_86 : decode cX9_init 86 = .ok (.iconst 4, 1) := by decide +kernel
theorem dX9_init_87 : decode cX9_init 87 = .ok (.newarray .int, 2) := by decide +kernel
theorem dX9_init_89 : decode cX9_init 89 = .ok (.putfield 40, 3) := by decide +kernel
theorem dX9_init_92 : decode cX9_init 92 = .ok (.aload_n 0, 1) := by decide +kernel
theorem dX9_init_93 : decode cX9_init 93 = .ok (.sipush 180, 3) := by decide +kernel
theorem dX9_init_96 : decode cX9_init 96 = .ok (.newarray .int, 2) := by decide +kernel
theorem dX9_init_98 : decode cX9_init 98 = .ok (.putfield 43, 3) := by decide +kernel
theorem dX9_init_101 : decode cX9_init 101 = .ok (.aload_n 0, 1) := by decide +kernel
theorem dX9_init_102 : decode cX9_init 102 = .ok (.sipush 128, 3) := by decide +kernel
theorem dX9_init_105 : decode cX9_init 105 = .ok (.newarray .int, 2) := by decide +kernel
theorem dX9_init_107 : decode cX9_init 107 = .ok (.putfield 46, 3) := by decide +kernel
theorem dX9_init_110 : decode cX9_init 110 = .ok (.aload_n 0, 1) := by decide +kernel
theorem dX9_init_111 : decode cX9_init 111 = .ok (.sipush 128, 3) := by decide +kernel
theorem dX9_init_114 : decode cX9_init 114 = .ok (.newarray .int, 2) := by decide +kernel
theorem dX9_init_116 : decode cX9_init 116 = .ok (.putfield 49, 3) := by decide +kernel
theorem dX9_init_119 : decode cX9_init 119 = .ok (.aload_n 0, 1) := by decide +kernel
theorem dX9_init_120 : decode cX9_init 120 = .ok (.sipush 128, 3) := by decide +kernel
theorem dX9_init_123 : decode cX9_init 123 = .ok (.newarray .int, 2) := by decide +kernel
theorem dX9_init_125 : decode cX9_init 125 = .ok (.putfield 52, 3) := by decide +kernel
theorem dX9_init_128 : decode cX9_init 128 = .ok (.aload_n 0, 1) := by decide +kernel
theorem dX9_init_129 : decode cX9_init 129 = .ok (.bipush 65, 2) := by decide +kernel
theorem dX9_init_131 : decode cX9_init 131 = .ok (.newarray .long, 2) := by decide +kernel
theorem dX9_init_133 : decode cX9_init 133 = .ok (.putfield 55, 3) := by decide +kernel
theorem dX9_init_136 : decode cX9_init 136 = .ok (.aload_n 0, 1) := by decide +kernel
theorem dX9_init_137 : decode cX9_init 137 = .ok (.sipush 148, 3) := by decide +kernel
theorem dX9_init_140 : decode cX9_init 140 = .ok (.newarray .int, 2) := by decide +kernel
theorem dX9_init_142 : decode cX9_init 142 = .ok (.putfield 59, 3) := by decide +kernel
theorem dX9_init_145 : decode cX9_init 145 = .ok (.return_, 1) := by decide +kernel
theorem dX9_in_0 : decode cX9_in 0 = .ok (.iload_n 0, 1) := by decide +kernel
theorem dX9_in_1 : decode cX9_in 1 = .ok (.iload_n 1, 1) := by decide +kernel
theorem dX9_in_2 : decode cX9_in 2 = .ok (.if_icmp .lt 12, 3) := by decide +kernel
theorem dX9_in_5 : decode cX9_in 5 = .ok (.iload_n 0, 1) := by decide +kernel
theorem dX9_in_6 : decode cX9_in 6 = .ok (.iload_n 2, 1) := by decide +kernel
theorem dX9_in_7 : decode cX9_in 7 = .ok (.if_icmp .gt 7, 3) := by decide +kernel
theorem dX9_in_10 : decode cX9_in 10 = .ok (.iconst 1, 1) := by decide +kernel
theorem dX9_in_11 : decode cX9_in 11 = .ok (.goto 4, 3) := by decide +kernel
theorem dX9_in_14 : decode cX9_in 14 = .ok (.iconst 0, 1) := by decide +kernel
theorem dX9_in_15 : decode cX9_in 15 = .ok (.ireturn, 1) := by decide +kernel
theorem dX9_isCode_0 : decode cX9_isCode 0 = .ok (.iload_n 1, 1) := by decide +kernel
theorem dX9_isCode_1 : decode cX9_isCode 1 = .ok (.iconst 0, 1) := by decide +kernel
theorem dX9_isCode_2 : decode cX9_isCode 2 = .ok (.aload_n 0, 1) := by decide +kernel
theorem dX9_isCode_3 : decode cX9_isCode 3 = .ok (.getfield 62, 3) := by decide +kernel
theorem dX9_isCode_6 : decode cX9_isCode 6 = .ok (.iconst 1, 1) := by decide +kernel
theorem dX9_isCode_7 : decode cX9_isCode 7 = .ok (.isub, 1) := by decide +kernel
theorem dX9_isCode_8 : decode cX9_isCode 8 = .ok (.invokestatic 66, 3) := by decide +kernel
theorem dX9_isCode_11 : decode cX9_isCode 11 = .ok (.ireturn, 1) := by decide +kernel
theorem dX9_sortMany_0 : decode cX9_sortMany 0 = .ok (.iconst 0, 1) := by decide +kernel
theorem dX9_sortMany_1 : decode cX9_sortMany 1 = .ok (.istore_n 2, 1) := by decide +kernel
theorem dX9_sortMany_2 : decode cX9_sortMany 2 = .ok (.iconst 0, 1) := by decide +kernel
theorem dX9_sortMany_3 : decode cX9_sortMany 3 = .ok (.istore_n 3, 1) := by decide +kernel
theorem dX9_sortMany_4 : decode cX9_sortMany 4 = .ok (.iload_n 3, 1) := by decide +kernel
theorem dX9_sortMany_5 : decode cX9_sortMany 5 = .ok (.aload_n 0, 1) := by decide +kernel
theorem dX9_sortMany_6 : decode cX9_sortMany 6 = .ok (.getfield 62, 3) := by decide +kernel
theorem dX9_sortMany_9 : decode cX9_sortMany 9 = .ok (.if_icmp .ge 27, 3) := by decide +kernel
theorem dX9_sortMany_12 : decode cX9_sortMany 12 = .ok (.iload_n 2, 1) := by decide +kernel
theorem dX9_sortMany_13 : decode cX9_sortMany 13 = .ok (.aload_n 0, 1) := by decide +kernel
theorem dX9_sortMany_14 : decode cX9_sortMany 14 = .ok (.getfield 7, 3) := by decide +kernel
theorem dX9_sortMany_17 : decode cX9_sortMany 17 = .ok (.iload_n 3, 1) := by decide +kernel
theorem dX9_sortMany_18 : decode cX9_sortMany 18 = .ok (.iaload, 1) := by decide +kernel
theorem dX9_sortMany_19 : decode cX9_sortMany 19 = .ok (.iload_n 1, 1) := by decide +kernel
theorem dX9_sortMany_20 : decode cX9_sortMany 20 = .ok (.if_icmp .ne 7, 3) := by decide +kernel
theorem dX9_sortMany_23 : decode cX9_sortMany 23 = .ok (.iconst 1, 1) := by decide +kernel
theorem dX9_sortMany_24 : decode cX9_sortMany 24 = .ok (.goto 4, 3) := by decide +kernel
theorem dX9_sortMany_27 : decode cX9_sortMany 27 = .ok (.iconst 0, 1) := by decide +kernel
theorem dX9_sortMany_28 : decode cX9_sortMany 28 = .ok (.iadd, 1) := by decide +kernel
theorem dX9_sortMany_29 : decode cX9_sortMany 29 = .ok (.istore_n 2, 1) := by decide +kernel
theorem dX9_sortMany_30 : decode cX9_sortMany 30 = .ok (.iinc 3 1, 3) := by decide +kernel
theorem dX9_sortMany_33 : decode cX9_sortMany 33 = .ok (.goto (-29), 3) := by decide +kernel
theorem dX9_sortMany_36 : decode cX9_sortMany 36 = .ok (.iload_n 2, 1) := by decide +kernel
theorem dX9_sortMany_37 : decode cX9_sortMany 37 = .ok (.ireturn, 1) := by decide +kernel
theorem dX9_pairOf_0 : decode cX9_pairOf 0 = .ok (.bipush (-9), 2) := by decide +kernel
theorem dX9_pairOf_2 : decode cX9_pairOf 2 = .ok (.istore_n 3, 1) := by decide +kernel
theorem dX9_pairOf_3 : decode cX9_pairOf 3 = .ok (.iconst 0, 1) := by decide +kernel
theorem dX9_pairOf_4 : decode cX9_pairOf 4 = .ok (.istore 4, 2) := by decide +kernel
theorem dX9_pairOf_6 : decode cX9_pairOf 6 = .ok (.iload 4, 2) := by decide +kernel
theorem dX9_pairOf_8 : decode cX9_pairOf 8 = .ok (.aload_n 0, 1) := by decide +kernel
theorem dX9_pairOf_9 : decode cX9_pairOf 9 = .ok (.getfield 62, 3) := by decide +kernel
theorem dX9_pairOf_12 : decode cX9_pairOf 12 = .ok (.if_icmp .ge 49, 3) := by decide +kernel
theorem dX9_pairOf_15 : decode cX9_pairOf 15 = .ok (.aload_n 0, 1) := by decide +kernel
theorem dX9_pairOf_16 : decode cX9_pairOf 16 = .ok (.getfield 7, 3) := by decide +kernel
theorem dX9_pairOf_19 : decode cX9_pairOf 19 = .ok (.iload 4, 2) := by decide +kernel
theorem dX9_pairOf_21 : decode cX9_pairOf 21 = .ok (.iaload, 1) := by decide +kernel
theorem dX9_pairOf_22 : decode cX9_pairOf 22 = .ok (.iconst 1, 1) := by decide +kernel
theorem dX9_pairOf_23 : decode cX9_pairOf 23 = .ok (.if_icmp .ne 30, 3) := by decide +kernel
theorem dX9_pairOf_26 : decode cX9_pairOf 26 = .ok (.aload_n 0, 1) := by decide +kernel
theorem dX9_pairOf_27 : decode cX9_pairOf 27 = .ok (.getfield 16, 3) := by decide +kernel
theorem dX9_pairOf_30 : decode cX9_pairOf 30 = .ok (.iload 4, 2) := by decide +kernel
theorem dX9_pairOf_32 : decode cX9_pairOf 32 = .ok (.iaload, 1) := by decide +kernel
theorem dX9_pairOf_33 : decode cX9_pairOf 33 = .ok (.iload_n 1, 1) := by decide +kernel
theorem dX9_pairOf_34 : decode cX9_pairOf 34 = .ok (.if_icmp .ne 19, 3) := by decide +kernel
theorem dX9_pairOf_37 : decode cX9_pairOf 37 = .ok (.aload_n 0, 1) := by decide +kernel
theorem dX9_pairOf_38 : decode cX9_pairOf 38 = .ok (.getfield 19, 3) := by decide +kernel
theorem dX9_pairOf_41 : decode cX9_pairOf 41 = .ok (.iload 4, 2) := by decide +kernel
theorem dX9_pairOf_43 : decode cX9_pairOf 43 = .ok (.iaload, 1) := by decide +kernel
theorem dX9_pairOf_44 : decode cX9_pairOf 44 = .ok (.iload_n 2, 1) := by decide +kernel
theorem dX9_pairOf_45 : decode cX9_pairOf 45 = .ok (.if_icmp .ne 8, 3) := by decide +kernel
theorem dX9_pairOf_48 : decode cX9_pairOf 48 = .ok (.iload 4, 2) := by decide +kernel
theorem dX9_pairOf_50 : decode cX9_pairOf 50 = .ok (.goto 4, 3) := by decide +kernel
theorem dX9_pairOf_53 : decode cX9_pairOf 53 = .ok (.iload_n 3, 1) := by decide +kernel
theorem dX9_pairOf_54 : decode cX9_pairOf 54 = .ok (.istore_n 3, 1) := by decide +kernel
theorem dX9_pairOf_55 : decode cX9_pairOf 55 = .ok (.iinc 4 1, 3) := by decide +kernel
theorem dX9_pairOf_58 : decode cX9_pairOf 58 = .ok (.goto (-52), 3) := by decide +kernel
theorem dX9_pairOf_61 : decode cX9_pairOf 61 = .ok (.iload_n 3, 1) := by decide +kernel
theorem dX9_pairOf_62 : decode cX9_pairOf 62 = .ok (.ireturn, 1) := by decide +kernel
theorem dX9_comes_0 : decode cX9_comes 0 = .ok (.aload_n 0, 1) := by decide +kernel
theorem dX9_comes_1 : decode cX9_comes 1 = .ok (.getfield 62, 3) := by decide +kernel
theorem dX9_comes_4 : decode cX9_comes 4 = .ok (.istore 5, 2) := by decide +kernel
theorem dX9_comes_6 : decode cX9_comes 6 = .ok (.aload_n 0, 1) := by decide +kernel
theorem dX9_comes_7 : decode cX9_comes 7 = .ok (.getfield 7, 3) := by decide +kernel
theorem dX9_comes_10 : decode cX9_comes 10 = .ok (.iload 5, 2) := by decide +kernel
theorem dX9_comes_12 : decode cX9_comes 12 = .ok (.iload_n 1, 1) := by decide +kernel
theorem dX9_comes_13 : decode cX9_comes 13 = .ok (.iastore, 1) := by decide +kernel
theorem dX9_comes_14 : decode cX9_comes 14 = .ok (.aload_n 0, 1) := by decide +kernel
theorem dX9_comes_15 : decode cX9_comes 15 = .ok (.getfield 13, 3) := by decide +kernel
theorem dX9_comes_18 : decode cX9_comes 18 = .ok (.iload 5, 2) := by decide +kernel
theorem dX9_comes_20 : decode cX9_comes 20 = .ok (.iload_n 2, 1) := by decide +kernel
theorem dX9_comes_21 : decode cX9_comes 21 = .ok (.iastore, 1) := by decide +kernel
theorem dX9_comes_22 : decode cX9_comes 22 = .ok (.aload_n 0, 1) := by decide +kernel
theorem dX9_comes_23 : decode cX9_comes 23 = .ok (.getfield 16, 3) := by decide +kernel
theorem dX9_comes_26 : decode cX9_comes 26 = .ok (.iload 5, 2) := by decide +kernel
theorem dX9_comes_28 : decode cX9_comes 28 = .ok (.iload_n 3, 1) := by decide +kernel
theorem dX9_comes_29 : decode cX9_comes 29 = .ok (.iastore, 1) := by decide +kernel
theorem dX9_comes_30 : decode cX9_comes 30 = .ok (.aload_n 0, 1) := by decide +kernel
theorem dX9_comes_31 : decode cX9_comes 31 = .ok (.getfield 19, 3) := by decide +kernel
theorem dX9_comes_34 : decode cX9_comes 34 = .ok (.iload 5, 2) := by decide +kernel
theorem dX9_comes_36 : decode cX9_comes 36 = .ok (.iload 4, 2) := by decide +kernel
theorem dX9_comes_38 : decode cX9_comes 38 = .ok (.iastore, 1) := by decide +kernel
theorem dX9_comes_39 : decode cX9_comes 39 = .ok (.aload_n 0, 1) := by decide +kernel
theorem dX9_comes_40 : decode cX9_comes 40 = .ok (.getfield 22, 3) := by decide +kernel
theorem dX9_comes_43 : decode cX9_comes 43 = .ok (.iload 5, 2) := by decide +kernel
theorem dX9_comes_45 : decode cX9_comes 45 = .ok (.iconst 0, 1) := by decide +kernel
theorem dX9_comes_46 : decode cX9_comes 46 = .ok (.iastore, 1) := by decide +kernel
theorem dX9_comes_47 : decode cX9_comes 47 = .ok (.iload_n 1, 1) := by decide +kernel
theorem dX9_comes_48 : decode cX9_comes 48 = .ok (.ifCond .ne 14, 3) := by decide +kernel
theorem dX9_comes_51 : decode cX9_comes 51 = .ok (.aload_n 0, 1) := by decide +kernel
theorem dX9_comes_52 : decode cX9_comes 52 = .ok (.iload 5, 2) := by decide +kernel
theorem dX9_comes_54 : decode cX9_comes 54 = .ok (.iload 5, 2) := by decide +kernel
theorem dX9_comes_56 : decode cX9_comes 56 = .ok (.invokevirtual 70, 3) := by decide +kernel
theorem dX9_comes_59 : decode cX9_comes 59 = .ok (.goto 53, 3) := by decide +kernel
theorem dX9_comes_62 : decode cX9_comes 62 = .ok (.iconst 0, 1) := by decide +kernel
theorem dX9_comes_63 : decode cX9_comes 63 = .ok (.istore 6, 2) := by decide +kernel
theorem dX9_comes_65 : decode cX9_comes 65 = .ok (.iload 6, 2) := by decide +kernel
theorem dX9_comes_67 : decode cX9_comes 67 = .ok (.aload_n 0, 1) := by decide +kernel
theorem dX9_comes_68 : decode cX9_comes 68 = .ok (.getfield 22, 3) := by decide +kernel
theorem dX9_comes_71 : decode cX9_comes 71 = .ok (.iload_n 3, 1) := by decide +kernel
theorem dX9_comes_72 : decode cX9_comes 72 = .ok (.iaload, 1) := by decide +kernel
theorem dX9_comes_73 : decode cX9_comes 73 = .ok (.if_icmp .ge 26, 3) := by decide +kernel
theorem dX9_comes_76 : decode cX9_comes 76 = .ok (.aload_n 0, 1) := by decide +kernel
theorem dX9_comes_77 : decode cX9_comes 77 = .ok (.iload 5, 2) := by decide +kernel
theorem dX9_comes_79 : decode cX9_comes 79 = .ok (.aload_n 0, 1) := by decide +kernel
theorem dX9_comes_80 : decode cX9_comes 80 = .ok (.getfield 25, 3) := by decide +kernel
theorem dX9_comes_83 : decode cX9_comes 83 = .ok (.iconst 4, 1) := by decide +kernel
theorem dX9_comes_84 : decode cX9_comes 84 = .ok (.iload_n 3, 1) := by decide +kernel
theorem dX9_comes_85 : decode cX9_comes 85 = .ok (.imul, 1) := by decide +kernel
theorem dX9_comes_86 : decode cX9_comes 86 = .ok (.iload 6, 2) := by decide +kernel
theorem dX9_comes_88 : decode cX9_comes 88 = .ok (.iadd, 1) := by decide +kernel
theorem dX9_comes_89 : decode cX9_comes 89 = .ok (.iaload, 1) := by decide +kernel
theorem dX9_comes_90 : decode cX9_comes 90 = .ok (.invokevirtual 70, 3) := by decide +kernel
theorem dX9_comes_93 : decode cX9_comes 93 = .ok (.iinc 6 1, 3) := by decide +kernel
theorem dX9_comes_96 : decode cX9_comes 96 = .ok (.goto (-31), 3) := by decide +kernel
theorem dX9_comes_99 : decode cX9_comes 99 = .ok (.iload_n 1, 1) := by decide +kernel
theorem dX9_comes_100 : decode cX9_comes 100 = .ok (.iconst 3, 1) := by decide +kernel
theorem dX9_comes_101 : decode cX9_comes 101 = .ok (.if_icmp .eq 11, 3) := by decide +kernel
theorem dX9_comes_104 : decode cX9_comes 104 = .ok (.aload_n 0, 1) := by decide +kernel
theorem dX9_comes_105 : decode cX9_comes 105 = .ok (.iload 5, 2) := by decide +kernel
theorem dX9_comes_107 : decode cX9_comes 107 = .ok (.iload 4, 2) := by decide +kernel
theorem dX9_comes_109 : decode cX9_comes 109 = .ok (.invokevirtual 70, 3) := by decide +kernel
theorem dX9_comes_112 : decode cX9_comes 112 = .ok (.aload_n 0, 1) := by decide +kernel
theorem dX9_comes_113 : decode cX9_comes 113 = .ok (.dup, 1) := by decide +kernel
theorem dX9_comes_114 : decode cX9_comes 114 = .ok (.getfield 62, 3) := by decide +kernel
theorem dX9_comes_117 : decode cX9_comes 117 = .ok (.iconst 1, 1) := by decide +kernel
theorem dX9_comes_118 : decode cX9_comes 118 = .ok (.iadd, 1) := by decide +kernel
theorem dX9_comes_119 : decode cX9_comes 119 = .ok (.putfield 62, 3) := by decide +kernel
theorem dX9_comes_122 : decode cX9_comes 122 = .ok (.return_, 1) := by decide +kernel
theorem dX9_comesPiece_0 : decode cX9_comesPiece 0 = .ok (.aload_n 0, 1) := by decide +kernel
theorem dX9_comesPiece_1 : decode cX9_comesPiece 1 = .ok (.getfield 25, 3) := by decide +kernel
theorem dX9_comesPiece_4 : decode cX9_comesPiece 4 = .ok (.iconst 4, 1) := by decide +kernel
theorem dX9_comesPiece_5 : decode cX9_comesPiece 5 = .ok (.iload_n 1, 1) := by decide +kernel
theorem dX9_comesPiece_6 : decode cX9_comesPiece 6 = .ok (.imul, 1) := by decide +kernel
theorem dX9_comesPiece_7 : decode cX9_comesPiece 7 = .ok (.aload_n 0, 1) := by decide +kernel
theorem dX9_comesPiece_8 : decode cX9_comesPiece 8 = .ok (.getfield 22, 3) := by decide +kernel
theorem dX9_comesPiece_11 : decode cX9_comesPiece 11 = .ok (.iload_n 1, 1) := by decide +kernel
theorem dX9_comesPiece_12 : decode cX9_comesPiece 12 = .ok (.iaload, 1) := by decide +kernel
theorem dX9_comesPiece_13 : decode cX9_comesPiece 13 = .ok (.iadd, 1) := by decide +kernel
theorem dX9_comesPiece_14 : decode cX9_comesPiece 14 = .ok (.iload_n 2, 1) := by decide +kernel
theorem dX9_comesPiece_15 : decode cX9_comesPiece 15 = .ok (.iastore, 1) := by decide +kernel
theorem dX9_comesPiece_16 : decode cX9_comesPiece 16 = .ok (.aload_n 0, 1) := by decide +kernel
theorem dX9_comesPiece_17 : decode cX9_comesPiece 17 = .ok (.getfield 22, 3) := by decide +kernel
theorem dX9_comesPiece_20 : decode cX9_comesPiece 20 = .ok (.iload_n 1, 1) := by decide +kernel
theorem dX9_comesPiece_21 : decode cX9_comesPiece 21 = .ok (.dup2, 1) := by decide +kernel
theorem dX9_comesPiece_22 : decode cX9_comesPiece 22 = .ok (.iaload, 1) := by decide +kernel
theorem dX9_comesPiece_23 : decode cX9_comesPiece 23 = .ok (.iconst 1, 1) := by decide +kernel
theorem dX9_comesPiece_24 : decode cX9_comesPiece 24 = .ok (.iadd, 1) := by decide +kernel
theorem dX9_comesPiece_25 : decode cX9_comesPiece 25 = .ok (.iastore, 1) := by decide +kernel
theorem dX9_comesPiece_26 : decode cX9_comesPiece 26 = .ok (.return_, 1) := by decide +kernel
theorem dX9_code_0 : decode cX9_code 0 = .ok (.aload_n 0, 1) := by decide +kernel
theorem dX9_code_1 : decode cX9_code 1 = .ok (.iload_n 1, 1) := by decide +kernel
theorem dX9_code_2 : decode cX9_code 2 = .ok (.invokevirtual 74, 3) := by decide +kernel
theorem dX9_code_5 : decode cX9_code 5 = .ok (.ifCond .eq 13, 3) := by decide +kernel
theorem dX9_code_8 : decode cX9_code 8 = .ok (.iload_n 2, 1) := by decide +kernel
theorem dX9_code_9 : decode cX9_code 9 = .ok (.iconst 0, 1) := by decide +kernel
theorem dX9_code_10 : decode cX9_code 10 = .ok (.bipush 8, 2) := by decide +kernel
theorem dX9_code_12 : decode cX9_code 12 = .ok (.invokestatic 66, 3) := by decide +kernel
theorem dX9_code_15 : decode cX9_code 15 = .ok (.ifCond .ne 5, 3) := by decide +kernel
theorem dX9_code_18 : decode cX9_code 18 = .ok (.iconst (-1), 1) := by decide +kernel
theorem dX9_code_19 : decode cX9_code 19 = .ok (.ireturn, 1) := by decide +kernel
theorem dX9_code_20 : decode cX9_code 20 = .ok (.iload_n 2, 1) := by decide +kernel
theorem dX9_code_21 : decode cX9_code 21 = .ok (.tableswitch 70 0 4 #[35, 42, 49, 56, 63], 35) := by decide +kernel
theorem dX9_code_56 : decode cX9_code 56 = .ok (.aload_n 0, 1) := by decide +kernel
theorem dX9_code_57 : decode cX9_code 57 = .ok (.getfield 13, 3) := by decide +kernel
theorem dX9_code_60 : decode cX9_code 60 = .ok (.iload_n 1, 1) := by decide +kernel
theorem dX9_code_61 : decode cX9_code 61 = .ok (.iaload, 1) := by decide +kernel
theorem dX9_code_62 : decode cX9_code 62 = .ok (.ireturn, 1) := by decide +kernel
theorem dX9_code_63 : decode cX9_code 63 = .ok (.aload_n 0, 1) := by decide +kernel
theorem dX9_code_64 : decode cX9_code 64 = .ok (.getfield 7, 3) := by decide +kernel
theorem dX9_code_67 : decode cX9_code 67 = .ok (.iload_n 1, 1) := by decide +kernel
theorem dX9_code_68 : decode cX9_code 68 = .ok (.iaload, 1) := by decide +kernel
theorem dX9_code_69 : decode cX9_code 69 = .ok (.ireturn, 1) := by decide +kernel
theorem dX9_code_70 : decode cX9_code 70 = .ok (.aload_n 0, 1) := by decide +kernel
theorem dX9_code_71 : decode cX9_code 71 = .ok (.getfield 16, 3) := by decide +kernel
theorem dX9_code_74 : decode cX9_code 74 = .ok (.iload_n 1, 1) := by decide +kernel
theorem dX9_code_75 : decode cX9_code 75 = .ok (.iaload, 1) := by decide +kernel
theorem dX9_code_76 : decode cX9_code 76 = .ok (.ireturn, 1) := by decide +kernel
theorem dX9_code_77 : decode cX9_code 77 = .ok (.aload_n 0, 1) := by decide +kernel
theorem dX9_code_78 : decode cX9_code 78 = .ok (.getfield 19, 3) := by decide +kernel
theorem dX9_code_81 : decode cX9_code 81 = .ok (.iload_n 1, 1) := by decide +kernel
theorem dX9_code_82 : decode cX9_code 82 = .ok (.iaload, 1) := by decide +kernel
theorem dX9_code_83 : decode cX9_code 83 = .ok (.ireturn, 1) := by decide +kernel
theorem dX9_code_84 : decode cX9_code 84 = .ok (.aload_n 0, 1) := by decide +kernel
theorem dX9_code_85 : decode cX9_code 85 = .ok (.getfield 22, 3) := by decide +kernel
theorem dX9_code_88 : decode cX9_code 88 = .ok (.iload_n 1, 1) := by decide +kernel
theorem dX9_code_89 : decode cX9_code 89 = .ok (.iaload, 1) := by decide +kernel
theorem dX9_code_90 : decode cX9_code 90 = .ok (.ireturn, 1) := by decide +kernel
theorem dX9_code_91 : decode cX9_code 91 = .ok (.iload_n 2, 1) := by decide +kernel
theorem dX9_code_92 : decode cX9_code 92 = .ok (.iconst 5, 1) := by decide +kernel
theorem dX9_code_93 : decode cX9_code 93 = .ok (.isub, 1) := by decide +kernel
theorem dX9_code_94 : decode cX9_code 94 = .ok (.aload_n 0, 1) := by decide +kernel
theorem dX9_code_95 : decode cX9_code 95 = .ok (.getfield 22, 3) := by decide +kernel
theorem dX9_code_98 : decode cX9_code 98 = .ok (.iload_n 1, 1) := by decide +kernel
theorem dX9_code_99 : decode cX9_code 99 = .ok (.iaload, 1) := by decide +kernel
theorem dX9_code_100 : decode cX9_code 100 = .ok (.if_icmp .ge 18, 3) := by decide +kernel
theorem dX9_code_103 : decode cX9_code 103 = .ok (.aload_n 0, 1) := by decide +kernel
theorem dX9_code_104 : decode cX9_code 104 = .ok (.getfield 25, 3) := by decide +kernel
theorem dX9_code_107 : decode cX9_code 107 = .ok (.iconst 4, 1) := by decide +kernel
theorem dX9_code_108 : decode cX9_code 108 = .ok (.iload_n 1, 1) := by decide +kernel
theorem dX9_code_109 : decode cX9_code 109 = .ok (.imul, 1) := by decide +kernel
theorem dX9_code_110 : decode cX9_code 110 = .ok (.iload_n 2, 1) := by decide +kernel
theorem dX9_code_111 : decode cX9_code 111 = .ok (.iadd, 1) := by decide +kernel
theorem dX9_code_112 : decode cX9_code 112 = .ok (.iconst 5, 1) := by decide +kernel
theorem dX9_code_113 : decode cX9_code 113 = .ok (.isub, 1) := by decide +kernel
theorem dX9_code_114 : decode cX9_code 114 = .ok (.iaload, 1) := by decide +kernel
theorem dX9_code_115 : decode cX9_code 115 = .ok (.goto 5, 3) := by decide +kernel
theorem dX9_code_118 : decode cX9_code 118 = .ok (.bipush (-9), 2) := by decide +kernel
theorem dX9_code_120 : decode cX9_code 120 = .ok (.ireturn, 1) := by decide +kernel
theorem dX9_pair_0 : decode cX9_pair 0 = .ok (.aload_n 0, 1) := by decide +kernel
theorem dX9_pair_1 : decode cX9_pair 1 = .ok (.iload_n 1, 1) := by decide +kernel
theorem dX9_pair_2 : decode cX9_pair 2 = .ok (.invokevirtual 74, 3) := by decide +kernel
theorem dX9_pair_5 : decode cX9_pair 5 = .ok (.ifCond .eq 20, 3) := by decide +kernel
theorem dX9_pair_8 : decode cX9_pair 8 = .ok (.aload_n 0, 1) := by decide +kernel
theorem dX9_pair_9 : decode cX9_pair 9 = .ok (.iload_n 2, 1) := by decide +kernel
theorem dX9_pair_10 : decode cX9_pair 10 = .ok (.invokevirtual 74, 3) := by decide +kernel
theorem dX9_pair_13 : decode cX9_pair 13 = .ok (.ifCond .eq 12, 3) := by decide +kernel
theorem dX9_pair_16 : decode cX9_pair 16 = .ok (.aload_n 0, 1) := by decide +kernel
theorem dX9_pair_17 : decode cX9_pair 17 = .ok (.iload_n 1, 1) := by decide +kernel
theorem dX9_pair_18 : decode cX9_pair 18 = .ok (.iload_n 2, 1) := by decide +kernel
theorem dX9_pair_19 : decode cX9_pair 19 = .ok (.invokevirtual 78, 3) := by decide +kernel
theorem dX9_pair_22 : decode cX9_pair 22 = .ok (.goto 4, 3) := by decide +kernel
theorem dX9_pair_25 : decode cX9_pair 25 = .ok (.iconst (-1), 1) := by decide +kernel
theorem dX9_pair_26 : decode cX9_pair 26 = .ok (.ireturn, 1) := by decide +kernel
theorem dX9_type_0 : decode cX9_type 0 = .ok (.iload_n 1, 1) := by decide +kernel
theorem dX9_type_1 : decode cX9_type 1 = .ok (.iconst 0, 1) := by decide +kernel
theorem dX9_type_2 : decode cX9_type 2 = .ok (.sipush 255, 3) := by decide +kernel
theorem dX9_type_5 : decode cX9_type 5 = .ok (.invokestatic 66, 3) := by decide +kernel
theorem dX9_type_8 : decode cX9_type 8 = .ok (.ifCond .ne 5, 3) := by decide +kernel
theorem dX9_type_11 : decode cX9_type 11 = .ok (.iconst (-1), 1) := by decide +kernel
theorem dX9_type_12 : decode cX9_type 12 = .ok (.ireturn, 1) := by decide +kernel
theorem dX9_type_13 : decode cX9_type 13 = .ok (.aload_n 0, 1) := by decide +kernel
theorem dX9_type_14 : decode cX9_type 14 = .ok (.getfield 82, 3) := by decide +kernel
theorem dX9_type_17 : decode cX9_type 17 = .ok (.sipush 150, 3) := by decide +kernel
theorem dX9_type_20 : decode cX9_type 20 = .ok (.if_icmp .ne 6, 3) := by decide +kernel
theorem dX9_type_23 : decode cX9_type 23 = .ok (.bipush (-3), 2) := by decide +kernel
theorem dX9_type_25 : decode cX9_type 25 = .ok (.ireturn, 1) := by decide +kernel
theorem dX9_type_26 : decode cX9_type 26 = .ok (.aload_n 0, 1) := by decide +kernel
theorem dX9_type_27 : decode cX9_type 27 = .ok (.getfield 28, 3) := by decide +kernel
theorem dX9_type_30 : decode cX9_type 30 = .ok (.aload_n 0, 1) := by decide +kernel
theorem dX9_type_31 : decode cX9_type 31 = .ok (.getfield 82, 3) := by decide +kernel
theorem dX9_type_34 : decode cX9_type 34 = .ok (.iload_n 1, 1) := by decide +kernel
theorem dX9_type_35 : decode cX9_type 35 = .ok (.iastore, 1) := by decide +kernel
theorem dX9_type_36 : decode cX9_type 36 = .ok (.aload_n 0, 1) := by decide +kernel
theorem dX9_type_37 : decode cX9_type 37 = .ok (.dup, 1) := by decide +kernel
theorem dX9_type_38 : decode cX9_type 38 = .ok (.getfield 82, 3) := by decide +kernel
theorem dX9_type_41 : decode cX9_type 41 = .ok (.iconst 1, 1) := by decide +kernel
theorem dX9_type_42 : decode cX9_type 42 = .ok (.iadd, 1) := by decide +kernel
theorem dX9_type_43 : decode cX9_type 43 = .ok (.putfield 82, 3) := by decide +kernel
theorem dX9_type_46 : decode cX9_type 46 = .ok (.aload_n 0, 1) := by decide +kernel
theorem dX9_type_47 : decode cX9_type 47 = .ok (.getfield 82, 3) := by decide +kernel
theorem dX9_type_50 : decode cX9_type 50 = .ok (.ireturn, 1) := by decide +kernel
theorem dX9_clear_0 : decode cX9_clear 0 = .ok (.aload_n 0, 1) := by decide +kernel
theorem dX9_clear_1 : decode cX9_clear 1 = .ok (.getfield 82, 3) := by decide +kernel
theorem dX9_clear_4 : decode cX9_clear 4 = .ok (.istore_n 1, 1) := by decide +kernel
theorem dX9_clear_5 : decode cX9_clear 5 = .ok (.aload_n 0, 1) := by decide +kernel
theorem dX9_clear_6 : decode cX9_clear 6 = .ok (.iconst 0, 1) := by decide +kernel
theorem dX9_clear_7 : decode cX9_clear 7 = .ok (.putfield 82, 3) := by decide +kernel
theorem dX9_clear_10 : decode cX9_clear 10 = .ok (.iload_n 1, 1) := by decide +kernel
theorem dX9_clear_11 : decode cX9_clear 11 = .ok (.ireturn, 1) := by decide +kernel
theorem dX9_here_0 : decode cX9_here 0 = .ok (.aload_n 0, 1) := by decide +kernel
theorem dX9_here_1 : decode cX9_here 1 = .ok (.getfield 85, 3) := by decide +kernel
theorem dX9_here_4 : decode cX9_here 4 = .ok (.aload_n 0, 1) := by decide +kernel
theorem dX9_here_5 : decode cX9_here 5 = .ok (.getfield 82, 3) := by decide +kernel
theorem dX9_here_8 : decode cX9_here 8 = .ok (.if_icmp .ge 15, 3) := by decide +kernel
theorem dX9_here_11 : decode cX9_here 11 = .ok (.aload_n 0, 1) := by decide +kernel
theorem dX9_here_12 : decode cX9_here 12 = .ok (.getfield 28, 3) := by decide +kernel
theorem dX9_here_15 : decode cX9_here 15 = .ok (.aload_n 0, 1) := by decide +kernel
theorem dX9_here_16 : decode cX9_here 16 = .ok (.getfield 85, 3) := by decide +kernel
theorem dX9_here_19 : decode cX9_here 19 = .ok (.iaload, 1) := by decide +kernel
theorem dX9_here_20 : decode cX9_here 20 = .ok (.goto 5, 3) := by decide +kernel
theorem dX9_here_23 : decode cX9_here 23 = .ok (.bipush (-9), 2) := by decide +kernel
theorem dX9_here_25 : decode cX9_here 25 = .ok (.ireturn, 1) := by decide +kernel
theorem dX9_skip_0 : decode cX9_skip 0 = .ok (.aload_n 0, 1) := by decide +kernel
theorem dX9_skip_1 : decode cX9_skip 1 = .ok (.invokevirtual 88, 3) := by decide +kernel
theorem dX9_skip_4 : decode cX9_skip 4 = .ok (.bipush 32, 2) := by decide +kernel
theorem dX9_skip_6 : decode cX9_skip 6 = .ok (.if_icmp .ne 16, 3) := by decide +kernel
theorem dX9_skip_9 : decode cX9_skip 9 = .ok (.aload_n 0, 1) := by decide +kernel
theorem dX9_skip_10 : decode cX9_skip 10 = .ok (.dup, 1) := by decide +kernel
theorem dX9_skip_11 : decode cX9_skip 11 = .ok (.getfield 85, 3) := by decide +kernel
theorem dX9_skip_14 : decode cX9_skip 14 = .ok (.iconst 1, 1) := by decide +kernel
theorem dX9_skip_15 : decode cX9_skip 15 = .ok (.iadd, 1) := by decide +kernel
theorem dX9_skip_16 : decode cX9_skip 16 = .ok (.putfield 85, 3) := by decide +kernel
theorem dX9_skip_19 : decode cX9_skip 19 = .ok (.goto (-19), 3) := by decide +kernel
theorem dX9_skip_22 : decode cX9_skip 22 = .ok (.return_, 1) := by decide +kernel
theorem dX9_number_0 : decode cX9_number 0 = .ok (.aload_n 0, 1) := by decide +kernel
theorem dX9_number_1 : decode cX9_number 1 = .ok (.invokevirtual 92, 3) := by decide +kernel
theorem dX9_number_4 : decode cX9_number 4 = .ok (.iconst 0, 1) := by decide +kernel
theorem dX9_number_5 : decode cX9_number 5 = .ok (.istore_n 3, 1) := by decide +kernel
theorem dX9_number_6 : decode cX9_number 6 = .ok (.iconst 0, 1) := by decide +kernel
theorem dX9_number_7 : decode cX9_number 7 = .ok (.istore 4, 2) := by decide +kernel
theorem dX9_number_9 : decode cX9_number 9 = .ok (.aload_n 0, 1) := by decide +kernel
theorem dX9_number_10 : decode cX9_number 10 = .ok (.getfield 85, 3) := by decide +kernel
theorem dX9_number_13 : decode cX9_number 13 = .ok (.iload_n 3, 1) := by decide +kernel
theorem dX9_number_14 : decode cX9_number 14 = .ok (.iadd, 1) := by decide +kernel
theorem dX9_number_15 : decode cX9_number 15 = .ok (.aload_n 0, 1) := by decide +kernel
theorem dX9_number_16 : decode cX9_number 16 = .ok (.getfield 82, 3) := by decide +kernel
theorem dX9_number_19 : decode cX9_number 19 = .ok (.if_icmp .ge 62, 3) := by decide +kernel
theorem dX9_number_22 : decode cX9_number 22 = .ok (.aload_n 0, 1) := by decide +kernel
theorem dX9_number_23 : decode cX9_number 23 = .ok (.getfield 28, 3) := by decide +kernel
theorem dX9_number_26 : decode cX9_number 26 = .ok (.aload_n 0, 1) := by decide +kernel
theorem dX9_number_27 : decode cX9_number 27 = .ok (.getfield 85, 3) := by decide +kernel
theorem dX9_number_30 : decode cX9_number 30 = .ok (.iload_n 3, 1) := by decide +kernel
theorem dX9_number_31 : decode cX9_number 31 = .ok (.iadd, 1) := by decide +kernel
theorem dX9_number_32 : decode cX9_number 32 = .ok (.iaload, 1) := by decide +kernel
theorem dX9_number_33 : decode cX9_number 33 = .ok (.bipush 48, 2) := by decide +kernel
theorem dX9_number_35 : decode cX9_number 35 = .ok (.bipush 57, 2) := by decide +kernel
theorem dX9_number_37 : decode cX9_number 37 = .ok (.invokestatic 66, 3) := by decide +kernel
theorem dX9_number_40 : decode cX9_number 40 = .ok (.ifCond .eq 41, 3) := by decide +kernel
theorem dX9_number_43 : decode cX9_number 43 = .ok (.iload_n 3, 1) := by decide +kernel
theorem dX9_number_44 : decode cX9_number 44 = .ok (.iconst 2, 1) := by decide +kernel
theorem dX9_number_45 : decode cX9_number 45 = .ok (.if_icmp .ge 26, 3) := by decide +kernel
theorem dX9_number_48 : decode cX9_number 48 = .ok (.bipush 10, 2) := by decide +kernel
theorem dX9_number_50 : decode cX9_number 50 = .ok (.iload 4, 2) := by decide +kernel
theorem dX9_number_52 : decode cX9_number 52 = .ok (.imul, 1) := by decide +kernel
theorem dX9_number_53 : decode cX9_number 53 = .ok (.aload_n 0, 1) := by decide +kernel
theorem dX9_number_54 : decode cX9_number 54 = .ok (.getfield 28, 3) := by decide +kernel
theorem dX9_number_57 : decode cX9_number 57 = .ok (.aload_n 0, 1) := by decide +kernel
theorem dX9_number_58 : decode cX9_number 58 = .ok (.getfield 85, 3) := by decide +kernel
theorem dX9_number_61 : decode cX9_number 61 = .ok (.iload_n 3, 1) := by decide +kernel
theorem dX9_number_62 : decode cX9_number 62 = .ok (.iadd, 1) := by decide +kernel
theorem dX9_number_63 : decode cX9_number 63 = .ok (.iaload, 1) := by decide +kernel
theorem dX9_number_64 : decode cX9_number 64 = .ok (.iadd, 1) := by decide +kernel
theorem dX9_number_65 : decode cX9_number 65 = .ok (.bipush 48, 2) := by decide +kernel
theorem dX9_number_67 : decode cX9_number 67 = .ok (.isub, 1) := by decide +kernel
theorem dX9_number_68 : decode cX9_number 68 = .ok (.goto 5, 3) := by decide +kernel
theorem dX9_number_71 : decode cX9_number 71 = .ok (.iload 4, 2) := by decide +kernel
theorem dX9_number_73 : decode cX9_number 73 = .ok (.istore 4, 2) := by decide +kernel
theorem dX9_number_75 : decode cX9_number 75 = .ok (.iinc 3 1, 3) := by decide +kernel
theorem dX9_number_78 : decode cX9_number 78 = .ok (.goto (-69), 3) := by decide +kernel
theorem dX9_number_81 : decode cX9_number 81 = .ok (.iload_n 3, 1) := by decide +kernel
theorem dX9_number_82 : decode cX9_number 82 = .ok (.iconst 1, 1) := by decide +kernel
theorem dX9_number_83 : decode cX9_number 83 = .ok (.iconst 2, 1) := by decide +kernel
theorem dX9_number_84 : decode cX9_number 84 = .ok (.invokestatic 66, 3) := by decide +kernel
theorem dX9_number_87 : decode cX9_number 87 = .ok (.ifCond .eq 27, 3) := by decide +kernel
theorem dX9_number_90 : decode cX9_number 90 = .ok (.iload_n 3, 1) := by decide +kernel
theorem dX9_number_91 : decode cX9_number 91 = .ok (.iconst 1, 1) := by decide +kernel
theorem dX9_number_92 : decode cX9_number 92 = .ok (.if_icmp .le 12, 3) := by decide +kernel
theorem dX9_number_95 : decode cX9_number 95 = .ok (.aload_n 0, 1) := by decide +kernel
theorem dX9_number_96 : decode cX9_number 96 = .ok (.invokevirtual 88, 3) := by decide +kernel
theorem dX9_number_99 : decode cX9_number 99 = .ok (.bipush 48, 2) := by decide +kernel
theorem dX9_number_101 : decode cX9_number 101 = .ok (.if_icmp .eq 13, 3) := by decide +kernel
theorem dX9_number_104 : decode cX9_number 104 = .ok (.iload 4, 2) := by decide +kernel
theorem dX9_number_106 : decode cX9_number 106 = .ok (.iload_n 1, 1) := by decide +kernel
theorem dX9_number_107 : decode cX9_number 107 = .ok (.iload_n 2, 1) := by decide +kernel
theorem dX9_number_108 : decode cX9_number 108 = .ok (.invokestatic 66, 3) := by decide +kernel
theorem dX9_number_111 : decode cX9_number 111 = .ok (.ifCond .ne 5, 3) := by decide +kernel
theorem dX9_number_114 : decode cX9_number 114 = .ok (.iconst 0, 1) := by decide +kernel
theorem dX9_number_115 : decode cX9_number 115 = .ok (.ireturn, 1) := by decide +kernel
theorem dX9_number_116 : decode cX9_number 116 = .ok (.aload_n 0, 1) := by decide +kernel
theorem dX9_number_117 : decode cX9_number 117 = .ok (.iload 4, 2) := by decide +kernel
theorem dX9_number_119 : decode cX9_number 119 = .ok (.putfield 95, 3) := by decide +kernel
theorem dX9_number_122 : decode cX9_number 122 = .ok (.aload_n 0, 1) := by decide +kernel
theorem dX9_number_123 : decode cX9_number 123 = .ok (.dup, 1) := by decide +kernel
theorem dX9_number_124 : decode cX9_number 124 = .ok (.getfield 85, 3) := by decide +kernel
theorem dX9_number_127 : decode cX9_number 127 = .ok (.iload_n 3, 1) := by decide +kernel
theorem dX9_number_128 : decode cX9_number 128 = .ok (.iadd, 1) := by decide +kernel
theorem dX9_number_129 : decode cX9_number 129 = .ok (.putfield 85, 3) := by decide +kernel
theorem dX9_number_132 : decode cX9_number 132 = .ok (.iconst 1, 1) := by decide +kernel
theorem dX9_number_133 : decode cX9_number 133 = .ok (.ireturn, 1) := by decide +kernel
theorem dX9_ends_0 : decode cX9_ends 0 = .ok (.aload_n 0, 1) := by decide +kernel
theorem dX9_ends_1 : decode cX9_ends 1 = .ok (.invokevirtual 92, 3) := by decide +kernel
theorem dX9_ends_4 : decode cX9_ends 4 = .ok (.aload_n 0, 1) := by decide +kernel
theorem dX9_ends_5 : decode cX9_ends 5 = .ok (.invokevirtual 88, 3) := by decide +kernel
theorem dX9_ends_8 : decode cX9_ends 8 = .ok (.bipush 59, 2) := by decide +kernel
theorem dX9_ends_10 : decode cX9_ends 10 = .ok (.if_icmp .eq 5, 3) := by decide +kernel
theorem dX9_ends_13 : decode cX9_ends 13 = .ok (.iconst 0, 1) := by decide +kernel
theorem dX9_ends_14 : decode cX9_ends 14 = .ok (.ireturn, 1) := by decide +kernel
theorem dX9_ends_15 : decode cX9_ends 15 = .ok (.aload_n 0, 1) := by decide +kernel
theorem dX9_ends_16 : decode cX9_ends 16 = .ok (.dup, 1) := by decide +kernel
theorem dX9_ends_17 : decode cX9_ends 17 = .ok (.getfield 85, 3) := by decide +kernel
theorem dX9_ends_20 : decode cX9_ends 20 = .ok (.iconst 1, 1) := by decide +kernel
theorem dX9_ends_21 : decode cX9_ends 21 = .ok (.iadd, 1) := by decide +kernel
theorem dX9_ends_22 : decode cX9_ends 22 = .ok (.putfield 85, 3) := by decide +kernel
theorem dX9_ends_25 : decode cX9_ends 25 = .ok (.iconst 1, 1) := by decide +kernel
theorem dX9_ends_26 : decode cX9_ends 26 = .ok (.ireturn, 1) := by decide +kernel
theorem dX9_readsPlain_0 : decode cX9_readsPlain 0 = .ok (.aload_n 0, 1) := by decide +kernel
theorem dX9_readsPlain_1 : decode cX9_readsPlain 1 = .ok (.iconst 0, 1) := by decide +kernel
theorem dX9_readsPlain_2 : decode cX9_readsPlain 2 = .ok (.bipush 9, 2) := by decide +kernel
theorem dX9_readsPlain_4 : decode cX9_readsPlain 4 = .ok (.invokevirtual 98, 3) := by decide +kernel
theorem dX9_readsPlain_7 : decode cX9_readsPlain 7 = .ok (.ifCond .ne 5, 3) := by decide +kernel
theorem dX9_readsPlain_10 : decode cX9_readsPlain 10 = .ok (.iconst 0, 1) := by decide +kernel
theorem dX9_readsPlain_11 : decode cX9_readsPlain 11 = .ok (.ireturn, 1) := by decide +kernel
theorem dX9_readsPlain_12 : decode cX9_readsPlain 12 = .ok (.aload_n 0, 1) := by decide +kernel
theorem dX9_readsPlain_13 : decode cX9_readsPlain 13 = .ok (.iconst 0, 1) := by decide +kernel
theorem dX9_readsPlain_14 : decode cX9_readsPlain 14 = .ok (.aload_n 0, 1) := by decide +kernel
theorem dX9_readsPlain_15 : decode cX9_readsPlain 15 = .ok (.getfield 95, 3) := by decide +kernel
theorem dX9_readsPlain_18 : decode cX9_readsPlain 18 = .ok (.bipush (-9), 2) := by decide +kernel
theorem dX9_readsPlain_20 : decode cX9_readsPlain 20 = .ok (.bipush (-9), 2) := by decide +kernel
theorem dX9_readsPlain_22 : decode cX9_readsPlain 22 = .ok (.invokevirtual 102, 3) := by decide +kernel
theorem dX9_readsPlain_25 : decode cX9_readsPlain 25 = .ok (.aload_n 0, 1) := by decide +kernel
theorem dX9_readsPlain_26 : decode cX9_readsPlain 26 = .ok (.invokevirtual 106, 3) := by decide +kernel
theorem dX9_readsPlain_29 : decode cX9_readsPlain 29 = .ok (.ireturn, 1) := by decide +kernel
theorem dX9_mayBegin_0 : decode cX9_mayBegin 0 = .ok (.aload_n 0, 1) := by decide +kernel
theorem dX9_mayBegin_1 : decode cX9_mayBegin 1 = .ok (.getfield 13, 3) := by decide +kernel
theorem dX9_mayBegin_4 : decode cX9_mayBegin 4 = .ok (.iload_n 1, 1) := by decide +kernel
theorem dX9_mayBegin_5 : decode cX9_mayBegin 5 = .ok (.iaload, 1) := by decide +kernel
theorem dX9_mayBegin_6 : decode cX9_mayBegin 6 = .ok (.ifCond .ne 36, 3) := by decide +kernel
theorem dX9_mayBegin_9 : decode cX9_mayBegin 9 = .ok (.aload_n 0, 1) := by decide +kernel
theorem dX9_mayBegin_10 : decode cX9_mayBegin 10 = .ok (.getfield 7, 3) := by decide +kernel
theorem dX9_mayBegin_13 : decode cX9_mayBegin 13 = .ok (.iload_n 1, 1) := by decide +kernel
theorem dX9_mayBegin_14 : decode cX9_mayBegin 14 = .ok (.iaload, 1) := by decide +kernel
theorem dX9_mayBegin_15 : decode cX9_mayBegin 15 = .ok (.ifCond .eq 13, 3) := by decide +kernel
theorem dX9_mayBegin_18 : decode cX9_mayBegin 18 = .ok (.aload_n 0, 1) := by decide +kernel
theorem dX9_mayBegin_19 : decode cX9_mayBegin 19 = .ok (.getfield 7, 3) := by decide +kernel
theorem dX9_mayBegin_22 : decode cX9_mayBegin 22 = .ok (.iload_n 1, 1) := by decide +kernel
theorem dX9_mayBegin_23 : decode cX9_mayBegin 23 = .ok (.iaload, 1) := by decide +kernel
theorem dX9_mayBegin_24 : decode cX9_mayBegin 24 = .ok (.iconst 1, 1) := by decide +kernel
theorem dX9_mayBegin_25 : decode cX9_mayBegin 25 = .ok (.if_icmp .ne 17, 3) := by decide +kernel
theorem dX9_mayBegin_28 : decode cX9_mayBegin 28 = .ok (.aload_n 0, 1) := by decide +kernel
theorem dX9_mayBegin_29 : decode cX9_mayBegin 29 = .ok (.getfield 22, 3) := by decide +kernel
theorem dX9_mayBegin_32 : decode cX9_mayBegin 32 = .ok (.iload_n 1, 1) := by decide +kernel
theorem dX9_mayBegin_33 : decode cX9_mayBegin 33 = .ok (.iaload, 1) := by decide +kernel
theorem dX9_mayBegin_34 : decode cX9_mayBegin 34 = .ok (.iconst 4, 1) := by decide +kernel
theorem dX9_mayBegin_35 : decode cX9_mayBegin 35 = .ok (.if_icmp .ge 7, 3) := by decide +kernel
theorem dX9_mayBegin_38 : decode cX9_mayBegin 38 = .ok (.iconst 1, 1) := by decide +kernel
theorem dX9_mayBegin_39 : decode cX9_mayBegin 39 = .ok (.goto 4, 3) := by decide +kernel
theorem dX9_mayBegin_42 : decode cX9_mayBegin 42 = .ok (.iconst 0, 1) := by decide +kernel
theorem dX9_mayBegin_43 : decode cX9_mayBegin 43 = .ok (.ireturn, 1) := by decide +kernel
theorem dX9_mayFollow_0 : decode cX9_mayFollow 0 = .ok (.aload_n 0, 1) := by decide +kernel
theorem dX9_mayFollow_1 : decode cX9_mayFollow 1 = .ok (.getfield 7, 3) := by decide +kernel
theorem dX9_mayFollow_4 : decode cX9_mayFollow 4 = .ok (.iload_n 2, 1) := by decide +kernel
theorem dX9_mayFollow_5 : decode cX9_mayFollow 5 = .ok (.iaload, 1) := by decide +kernel
theorem dX9_mayFollow_6 : decode cX9_mayFollow 6 = .ok (.ifCond .eq 5, 3) := by decide +kernel
theorem dX9_mayFollow_9 : decode cX9_mayFollow 9 = .ok (.iconst 0, 1) := by decide +kernel
theorem dX9_mayFollow_10 : decode cX9_mayFollow 10 = .ok (.ireturn, 1) := by decide +kernel
theorem dX9_mayFollow_11 : decode cX9_mayFollow 11 = .ok (.aload_n 0, 1) := by decide +kernel
theorem dX9_mayFollow_12 : decode cX9_mayFollow 12 = .ok (.getfield 25, 3) := by decide +kernel
theorem dX9_mayFollow_15 : decode cX9_mayFollow 15 = .ok (.iconst 4, 1) := by decide +kernel
theorem dX9_mayFollow_16 : decode cX9_mayFollow 16 = .ok (.iload_n 1, 1) := by decide +kernel
theorem dX9_mayFollow_17 : decode cX9_mayFollow 17 = .ok (.imul, 1) := by decide +kernel
theorem dX9_mayFollow_18 : decode cX9_mayFollow 18 = .ok (.aload_n 0, 1) := by decide +kernel
theorem dX9_mayFollow_19 : decode cX9_mayFollow 19 = .ok (.getfield 22, 3) := by decide +kernel
theorem dX9_mayFollow_22 : decode cX9_mayFollow 22 = .ok (.iload_n 1, 1) := by decide +kernel
theorem dX9_mayFollow_23 : decode cX9_mayFollow 23 = .ok (.iaload, 1) := by decide +kernel
theorem dX9_mayFollow_24 : decode cX9_mayFollow 24 = .ok (.iadd, 1) := by decide +kernel
theorem dX9_mayFollow_25 : decode cX9_mayFollow 25 = .ok (.iconst 1, 1) := by decide +kernel
theorem dX9_mayFollow_26 : decode cX9_mayFollow 26 = .ok (.isub, 1) := by decide +kernel
theorem dX9_mayFollow_27 : decode cX9_mayFollow 27 = .ok (.iaload, 1) := by decide +kernel
theorem dX9_mayFollow_28 : decode cX9_mayFollow 28 = .ok (.istore 4, 2) := by decide +kernel
theorem dX9_mayFollow_30 : decode cX9_mayFollow 30 = .ok (.iload_n 3, 1) := by decide +kernel
theorem dX9_mayFollow_31 : decode cX9_mayFollow 31 = .ok (.iconst 2, 1) := by decide +kernel
theorem dX9_mayFollow_32 : decode cX9_mayFollow 32 = .ok (.if_icmp .eq 39, 3) := by decide +kernel
theorem dX9_mayFollow_35 : decode cX9_mayFollow 35 = .ok (.aload_n 0, 1) := by decide +kernel
theorem dX9_mayFollow_36 : decode cX9_mayFollow 36 = .ok (.getfield 13, 3) := by decide +kernel
theorem dX9_mayFollow_39 : decode cX9_mayFollow 39 = .ok (.iload_n 2, 1) := by decide +kernel
theorem dX9_mayFollow_40 : decode cX9_mayFollow 40 = .ok (.iaload, 1) := by decide +kernel
theorem dX9_mayFollow_41 : decode cX9_mayFollow 41 = .ok (.ifCond .eq 19, 3) := by decide +kernel
theorem dX9_mayFollow_44 : decode cX9_mayFollow 44 = .ok (.aload_n 0, 1) := by decide +kernel
theorem dX9_mayFollow_45 : decode cX9_mayFollow 45 = .ok (.getfield 13, 3) := by decide +kernel
theorem dX9_mayFollow_48 : decode cX9_mayFollow 48 = .ok (.iload_n 2, 1) := by decide +kernel
theorem dX9_mayFollow_49 : decode cX9_mayFollow 49 = .ok (.iaload, 1) := by decide +kernel
theorem dX9_mayFollow_50 : decode cX9_mayFollow 50 = .ok (.aload_n 0, 1) := by decide +kernel
theorem dX9_mayFollow_51 : decode cX9_mayFollow 51 = .ok (.getfield 13, 3) := by decide +kernel
theorem dX9_mayFollow_54 : decode cX9_mayFollow 54 = .ok (.iload 4, 2) := by decide +kernel
theorem dX9_mayFollow_56 : decode cX9_mayFollow 56 = .ok (.iaload, 1) := by decide +kernel
theorem dX9_mayFollow_57 : decode cX9_mayFollow 57 = .ok (.if_icmp .lt 18, 3) := by decide +kernel
theorem dX9_mayFollow_60 : decode cX9_mayFollow 60 = .ok (.aload_n 0, 1) := by decide +kernel
theorem dX9_mayFollow_61 : decode cX9_mayFollow 61 = .ok (.iload_n 1, 1) := by decide +kernel
theorem dX9_mayFollow_62 : decode cX9_mayFollow 62 = .ok (.iload_n 2, 1) := by decide +kernel
theorem dX9_mayFollow_63 : decode cX9_mayFollow 63 = .ok (.invokevirtual 78, 3) := by decide +kernel
theorem dX9_mayFollow_66 : decode cX9_mayFollow 66 = .ok (.bipush (-9), 2) := by decide +kernel
theorem dX9_mayFollow_68 : decode cX9_mayFollow 68 = .ok (.if_icmp .ne 7, 3) := by decide +kernel
theorem dX9_mayFollow_71 : decode cX9_mayFollow 71 = .ok (.iconst 1, 1) := by decide +kernel
theorem dX9_mayFollow_72 : decode cX9_mayFollow 72 = .ok (.goto 4, 3) := by decide +kernel
theorem dX9_mayFollow_75 : decode cX9_mayFollow 75 = .ok (.iconst 0, 1) := by decide +kernel
theorem dX9_mayFollow_76 : decode cX9_mayFollow 76 = .ok (.ireturn, 1) := by decide +kernel
theorem dX9_readsTwo_0 : decode cX9_readsTwo 0 = .ok (.aload_n 0, 1) := by decide +kernel
theorem dX9_readsTwo_1 : decode cX9_readsTwo 1 = .ok (.invokevirtual 92, 3) := by decide +kernel
theorem dX9_readsTwo_4 : decode cX9_readsTwo 4 = .ok (.aload_n 0, 1) := by decide +kernel
theorem dX9_readsTwo_5 : decode cX9_readsTwo 5 = .ok (.getfield 85, 3) := by decide +kernel
theorem dX9_readsTwo_8 : decode cX9_readsTwo 8 = .ok (.istore_n 2, 1) := by decide +kernel
theorem dX9_readsTwo_9 : decode cX9_readsTwo 9 = .ok (.aload_n 0, 1) := by decide +kernel
theorem dX9_readsTwo_10 : decode cX9_readsTwo 10 = .ok (.iconst 0, 1) := by decide +kernel
theorem dX9_readsTwo_11 : decode cX9_readsTwo 11 = .ok (.aload_n 0, 1) := by decide +kernel
theorem dX9_readsTwo_12 : decode cX9_readsTwo 12 = .ok (.getfield 62, 3) := by decide +kernel
theorem dX9_readsTwo_15 : decode cX9_readsTwo 15 = .ok (.iconst 1, 1) := by decide +kernel
theorem dX9_readsTwo_16 : decode cX9_readsTwo 16 = .ok (.isub, 1) := by decide +kernel
theorem dX9_readsTwo_17 : decode cX9_readsTwo 17 = .ok (.invokevirtual 98, 3) := by decide +kernel
theorem dX9_readsTwo_20 : decode cX9_readsTwo 20 = .ok (.ifCond .ne 5, 3) := by decide +kernel
theorem dX9_readsTwo_23 : decode cX9_readsTwo 23 = .ok (.iconst 0, 1) := by decide +kernel
theorem dX9_readsTwo_24 : decode cX9_readsTwo 24 = .ok (.ireturn, 1) := by decide +kernel
theorem dX9_readsTwo_25 : decode cX9_readsTwo 25 = .ok (.aload_n 0, 1) := by decide +kernel
theorem dX9_readsTwo_26 : decode cX9_readsTwo 26 = .ok (.getfield 95, 3) := by decide +kernel
theorem dX9_readsTwo_29 : decode cX9_readsTwo 29 = .ok (.istore_n 3, 1) := by decide +kernel
theorem dX9_readsTwo_30 : decode cX9_readsTwo 30 = .ok (.aload_n 0, 1) := by decide +kernel
theorem dX9_readsTwo_31 : decode cX9_readsTwo 31 = .ok (.iload_n 3, 1) := by decide +kernel
theorem dX9_readsTwo_32 : decode cX9_readsTwo 32 = .ok (.invokevirtual 110, 3) := by decide +kernel
theorem dX9_readsTwo_35 : decode cX9_readsTwo 35 = .ok (.ifCond .ne 10, 3) := by decide +kernel
theorem dX9_readsTwo_38 : decode cX9_readsTwo 38 = .ok (.aload_n 0, 1) := by decide +kernel
theorem dX9_readsTwo_39 : decode cX9_readsTwo 39 = .ok (.iload_n 2, 1) := by decide +kernel
theorem dX9_readsTwo_40 : decode cX9_readsTwo 40 = .ok (.putfield 85, 3) := by decide +kernel
theorem dX9_readsTwo_43 : decode cX9_readsTwo 43 = .ok (.iconst 0, 1) := by decide +kernel
theorem dX9_readsTwo_44 : decode cX9_readsTwo 44 = .ok (.ireturn, 1) := by decide +kernel
theorem dX9_readsTwo_45 : decode cX9_readsTwo 45 = .ok (.aload_n 0, 1) := by decide +kernel
theorem dX9_readsTwo_46 : decode cX9_readsTwo 46 = .ok (.invokevirtual 92, 3) := by decide +kernel
theorem dX9_readsTwo_49 : decode cX9_readsTwo 49 = .ok (.aload_n 0, 1) := by decide +kernel
theorem dX9_readsTwo_50 : decode cX9_readsTwo 50 = .ok (.getfield 85, 3) := by decide +kernel
theorem dX9_readsTwo_53 : decode cX9_readsTwo 53 = .ok (.istore_n 2, 1) := by decide +kernel
theorem dX9_readsTwo_54 : decode cX9_readsTwo 54 = .ok (.aload_n 0, 1) := by decide +kernel
theorem dX9_readsTwo_55 : decode cX9_readsTwo 55 = .ok (.iconst 0, 1) := by decide +kernel
theorem dX9_readsTwo_56 : decode cX9_readsTwo 56 = .ok (.aload_n 0, 1) := by decide +kernel
theorem dX9_readsTwo_57 : decode cX9_readsTwo 57 = .ok (.getfield 62, 3) := by decide +kernel
theorem dX9_readsTwo_60 : decode cX9_readsTwo 60 = .ok (.iconst 1, 1) := by decide +kernel
theorem dX9_readsTwo_61 : decode cX9_readsTwo 61 = .ok (.isub, 1) := by decide +kernel
theorem dX9_readsTwo_62 : decode cX9_readsTwo 62 = .ok (.invokevirtual 98, 3) := by decide +kernel
theorem dX9_readsTwo_65 : decode cX9_readsTwo 65 = .ok (.ifCond .ne 5, 3) := by decide +kernel
theorem dX9_readsTwo_68 : decode cX9_readsTwo 68 = .ok (.iconst 0, 1) := by decide +kernel
theorem dX9_readsTwo_69 : decode cX9_readsTwo 69 = .ok (.ireturn, 1) := by decide +kernel
theorem dX9_readsTwo_70 : decode cX9_readsTwo 70 = .ok (.aload_n 0, 1) := by decide +kernel
theorem dX9_readsTwo_71 : decode cX9_readsTwo 71 = .ok (.getfield 95, 3) := by decide +kernel
theorem dX9_readsTwo_74 : decode cX9_readsTwo 74 = .ok (.istore 4, 2) := by decide +kernel
theorem dX9_readsTwo_76 : decode cX9_readsTwo 76 = .ok (.aload_n 0, 1) := by decide +kernel
theorem dX9_readsTwo_77 : decode cX9_readsTwo 77 = .ok (.iload_n 3, 1) := by decide +kernel
theorem dX9_readsTwo_78 : decode cX9_readsTwo 78 = .ok (.iload 4, 2) := by decide +kernel
theorem dX9_readsTwo_80 : decode cX9_readsTwo 80 = .ok (.iload_n 1, 1) := by decide +kernel
theorem dX9_readsTwo_81 : decode cX9_readsTwo 81 = .ok (.invokevirtual 113, 3) := by decide +kernel
theorem dX9_readsTwo_84 : decode cX9_readsTwo 84 = .ok (.ifCond .ne 10, 3) := by decide +kernel
theorem dX9_readsTwo_87 : decode cX9_readsTwo 87 = .ok (.aload_n 0, 1) := by decide +kernel
theorem dX9_readsTwo_88 : decode cX9_readsTwo 88 = .ok (.iload_n 2, 1) := by decide +kernel
theorem dX9_readsTwo_89 : decode cX9_readsTwo 89 = .ok (.putfield 85, 3) := by decide +kernel
theorem dX9_readsTwo_92 : decode cX9_readsTwo 92 = .ok (.iconst 0, 1) := by decide +kernel
theorem dX9_readsTwo_93 : decode cX9_readsTwo 93 = .ok (.ireturn, 1) := by decide +kernel
theorem dX9_readsTwo_94 : decode cX9_readsTwo 94 = .ok (.aload_n 0, 1) := by decide +kernel
theorem dX9_readsTwo_95 : decode cX9_readsTwo 95 = .ok (.iload_n 1, 1) := by decide +kernel
theorem dX9_readsTwo_96 : decode cX9_readsTwo 96 = .ok (.iconst 0, 1) := by decide +kernel
theorem dX9_readsTwo_97 : decode cX9_readsTwo 97 = .ok (.iload_n 3, 1) := by decide +kernel
theorem dX9_readsTwo_98 : decode cX9_readsTwo 98 = .ok (.iload 4, 2) := by decide +kernel
theorem dX9_readsTwo_100 : decode cX9_readsTwo 100 = .ok (.invokevirtual 102, 3) := by decide +kernel
theorem dX9_readsTwo_103 : decode cX9_readsTwo 103 = .ok (.aload_n 0, 1) := by decide +kernel
theorem dX9_readsTwo_104 : decode cX9_readsTwo 104 = .ok (.invokevirtual 106, 3) := by decide +kernel
theorem dX9_readsTwo_107 : decode cX9_readsTwo 107 = .ok (.ireturn, 1) := by decide +kernel
theorem dX9_readsSingle_0 : decode cX9_readsSingle 0 = .ok (.aload_n 0, 1) := by decide +kernel
theorem dX9_readsSingle_1 : decode cX9_readsSingle 1 = .ok (.iconst 0, 1) := by decide +kernel
theorem dX9_readsSingle_2 : decode cX9_readsSingle 2 = .ok (.aload_n 0, 1) := by decide +kernel
theorem dX9_readsSingle_3 : decode cX9_readsSingle 3 = .ok (.getfield 62, 3) := by decide +kernel
theorem dX9_readsSingle_6 : decode cX9_readsSingle 6 = .ok (.iconst 1, 1) := by decide +kernel
theorem dX9_readsSingle_7 : decode cX9_readsSingle 7 = .ok (.isub, 1) := by decide +kernel
theorem dX9_readsSingle_8 : decode cX9_readsSingle 8 = .ok (.invokevirtual 98, 3) := by decide +kernel
theorem dX9_readsSingle_11 : decode cX9_readsSingle 11 = .ok (.ifCond .ne 5, 3) := by decide +kernel
theorem dX9_readsSingle_14 : decode cX9_readsSingle 14 = .ok (.iconst 0, 1) := by decide +kernel
theorem dX9_readsSingle_15 : decode cX9_readsSingle 15 = .ok (.ireturn, 1) := by decide +kernel
theorem dX9_readsSingle_16 : decode cX9_readsSingle 16 = .ok (.aload_n 0, 1) := by decide +kernel
theorem dX9_readsSingle_17 : decode cX9_readsSingle 17 = .ok (.iconst 3, 1) := by decide +kernel
theorem dX9_readsSingle_18 : decode cX9_readsSingle 18 = .ok (.aload_n 0, 1) := by decide +kernel
theorem dX9_readsSingle_19 : decode cX9_readsSingle 19 = .ok (.getfield 13, 3) := by decide +kernel
theorem dX9_readsSingle_22 : decode cX9_readsSingle 22 = .ok (.aload_n 0, 1) := by decide +kernel
theorem dX9_readsSingle_23 : decode cX9_readsSingle 23 = .ok (.getfield 95, 3) := by decide +kernel
theorem dX9_readsSingle_26 : decode cX9_readsSingle 26 = .ok (.iaload, 1) := by decide +kernel
theorem dX9_readsSingle_27 : decode cX9_readsSingle 27 = .ok (.aload_n 0, 1) := by decide +kernel
theorem dX9_readsSingle_28 : decode cX9_readsSingle 28 = .ok (.getfield 95, 3) := by decide +kernel
theorem dX9_readsSingle_31 : decode cX9_readsSingle 31 = .ok (.bipush (-9), 2) := by decide +kernel
theorem dX9_readsSingle_33 : decode cX9_readsSingle 33 = .ok (.invokevirtual 102, 3) := by decide +kernel
theorem dX9_readsSingle_36 : decode cX9_readsSingle 36 = .ok (.aload_n 0, 1) := by decide +kernel
theorem dX9_readsSingle_37 : decode cX9_readsSingle 37 = .ok (.invokevirtual 106, 3) := by decide +kernel
theorem dX9_readsSingle_40 : decode cX9_readsSingle 40 = .ok (.ireturn, 1) := by decide +kernel
theorem dX9_readsCode_0 : decode cX9_readsCode 0 = .ok (.aload_n 0, 1) := by decide +kernel
theorem dX9_readsCode_1 : decode cX9_readsCode 1 = .ok (.invokevirtual 88, 3) := by decide +kernel
theorem dX9_readsCode_4 : decode cX9_readsCode 4 = .ok (.istore_n 1, 1) := by decide +kernel
theorem dX9_readsCode_5 : decode cX9_readsCode 5 = .ok (.aload_n 0, 1) := by decide +kernel
theorem dX9_readsCode_6 : decode cX9_readsCode 6 = .ok (.getfield 85, 3) := by decide +kernel
theorem dX9_readsCode_9 : decode cX9_readsCode 9 = .ok (.iconst 1, 1) := by decide +kernel
theorem dX9_readsCode_10 : decode cX9_readsCode 10 = .ok (.iadd, 1) := by decide +kernel
theorem dX9_readsCode_11 : decode cX9_readsCode 11 = .ok (.aload_n 0, 1) := by decide +kernel
theorem dX9_readsCode_12 : decode cX9_readsCode 12 = .ok (.getfield 82, 3) := by decide +kernel
theorem dX9_readsCode_15 : decode cX9_readsCode 15 = .ok (.if_icmp .ge 24, 3) := by decide +kernel
theorem dX9_readsCode_18 : decode cX9_readsCode 18 = .ok (.aload_n 0, 1) := by decide +kernel
theorem dX9_readsCode_19 : decode cX9_readsCode 19 = .ok (.getfield 28, 3) := by decide +kernel
theorem dX9_readsCode_22 : decode cX9_readsCode 22 = .ok (.aload_n 0, 1) := by decide +kernel
theorem dX9_readsCode_23 : decode cX9_readsCode 23 = .ok (.getfield 85, 3) := by decide +kernel
theorem dX9_readsCode_26 : decode cX9_readsCode 26 = .ok (.iconst 1, 1) := by decide +kernel
theorem dX9_readsCode_27 : decode cX9_readsCode 27 = .ok (.iadd, 1) := by decide +kernel
theorem dX9_readsCode_28 : decode cX9_readsCode 28 = .ok (.iaload, 1) := by decide +kernel
theorem dX9_readsCode_29 : decode cX9_readsCode 29 = .ok (.bipush 97, 2) := by decide +kernel
theorem dX9_readsCode_31 : decode cX9_readsCode 31 = .ok (.bipush 122, 2) := by decide +kernel
theorem dX9_readsCode_33 : decode cX9_readsCode 33 = .ok (.invokestatic 66, 3) := by decide +kernel
theorem dX9_readsCode_36 : decode cX9_readsCode 36 = .ok (.ifCond .ne 7, 3) := by decide +kernel
theorem dX9_readsCode_39 : decode cX9_readsCode 39 = .ok (.iconst 1, 1) := by decide +kernel
theorem dX9_readsCode_40 : decode cX9_readsCode 40 = .ok (.goto 4, 3) := by decide +kernel
theorem dX9_readsCode_43 : decode cX9_readsCode 43 = .ok (.iconst 0, 1) := by decide +kernel
theorem dX9_readsCode_44 : decode cX9_readsCode 44 = .ok (.istore_n 2, 1) := by decide +kernel
theorem dX9_readsCode_45 : decode cX9_readsCode 45 = .ok (.iload_n 1, 1) := by decide +kernel
theorem dX9_readsCode_46 : decode cX9_readsCode 46 = .ok (.bipush 99, 2) := by decide +kernel
theorem dX9_readsCode_48 : decode cX9_readsCode 48 = .ok (.if_icmp .eq 31, 3) := by decide +kernel
theorem dX9_readsCode_51 : decode cX9_readsCode 51 = .ok (.iload_n 1, 1) := by decide +kernel
theorem dX9_readsCode_52 : decode cX9_readsCode 52 = .ok (.bipush 120, 2) := by decide +kernel
theorem dX9_readsCode_54 : decode cX9_readsCode 54 = .ok (.if_icmp .eq 25, 3) := by decide +kernel
theorem dX9_readsCode_57 : decode cX9_readsCode 57 = .ok (.iload_n 1, 1) := by decide +kernel
theorem dX9_readsCode_58 : decode cX9_readsCode 58 = .ok (.bipush 115, 2) := by decide +kernel
theorem dX9_readsCode_60 : decode cX9_readsCode 60 = .ok (.if_icmp .eq 19, 3) := by decide +kernel
theorem dX9_readsCode_63 : decode cX9_readsCode 63 = .ok (.iload_n 1, 1) := by decide +kernel
theorem dX9_readsCode_64 : decode cX9_readsCode 64 = .ok (.bipush 112, 2) := by decide +kernel
theorem dX9_readsCode_66 : decode cX9_readsCode 66 = .ok (.if_icmp .ne 17, 3) := by decide +kernel
theorem dX9_readsCode_69 : decode cX9_readsCode 69 = .ok (.aload_n 0, 1) := by decide +kernel
theorem dX9_readsCode_70 : decode cX9_readsCode 70 = .ok (.iconst 1, 1) := by decide +kernel
theorem dX9_readsCode_71 : decode cX9_readsCode 71 = .ok (.invokevirtual 116, 3) := by decide +kernel
theorem dX9_readsCode_74 : decode cX9_readsCode 74 = .ok (.bipush 7, 2) := by decide +kernel
theorem dX9_readsCode_76 : decode cX9_readsCode 76 = .ok (.if_icmp .ge 7, 3) := by decide +kernel
theorem dX9_readsCode_79 : decode cX9_readsCode 79 = .ok (.iconst 1, 1) := by decide +kernel
theorem dX9_readsCode_80 : decode cX9_readsCode 80 = .ok (.goto 4, 3) := by decide +kernel
theorem dX9_readsCode_83 : decode cX9_readsCode 83 = .ok (.iconst 0, 1) := by decide +kernel
theorem dX9_readsCode_84 : decode cX9_readsCode 84 = .ok (.istore_n 3, 1) := by decide +kernel
theorem dX9_readsCode_85 : decode cX9_readsCode 85 = .ok (.iload_n 2, 1) := by decide +kernel
theorem dX9_readsCode_86 : decode cX9_readsCode 86 = .ok (.ifCond .eq 16, 3) := by decide +kernel
theorem dX9_readsCode_89 : decode cX9_readsCode 89 = .ok (.iload_n 3, 1) := by decide +kernel
theorem dX9_readsCode_90 : decode cX9_readsCode 90 = .ok (.ifCond .eq 12, 3) := by decide +kernel
theorem dX9_readsCode_93 : decode cX9_readsCode 93 = .ok (.aload_n 0, 1) := by decide +kernel
theorem dX9_readsCode_94 : decode cX9_readsCode 94 = .ok (.getfield 62, 3) := by decide +kernel
theorem dX9_readsCode_97 : decode cX9_readsCode 97 = .ok (.bipush 24, 2) := by decide +kernel
theorem dX9_readsCode_99 : decode cX9_readsCode 99 = .ok (.if_icmp .ne 5, 3) := by decide +kernel
theorem dX9_readsCode_102 : decode cX9_readsCode 102 = .ok (.iconst 0, 1) := by decide +kernel
theorem dX9_readsCode_103 : decode cX9_readsCode 103 = .ok (.ireturn, 1) := by decide +kernel
theorem dX9_readsCode_104 : decode cX9_readsCode 104 = .ok (.aload_n 0, 1) := by decide +kernel
theorem dX9_readsCode_105 : decode cX9_readsCode 105 = .ok (.dup, 1) := by decide +kernel
theorem dX9_readsCode_106 : decode cX9_readsCode 106 = .ok (.getfield 85, 3) := by decide +kernel
theorem dX9_readsCode_109 : decode cX9_readsCode 109 = .ok (.iconst 1, 1) := by decide +kernel
theorem dX9_readsCode_110 : decode cX9_readsCode 110 = .ok (.iadd, 1) := by decide +kernel
theorem dX9_readsCode_111 : decode cX9_readsCode 111 = .ok (.putfield 85, 3) := by decide +kernel
theorem dX9_readsCode_114 : decode cX9_readsCode 114 = .ok (.iload_n 1, 1) := by decide +kernel
theorem dX9_readsCode_115 : decode cX9_readsCode 115 = .ok (.bipush 99, 2) := by decide +kernel
theorem dX9_readsCode_117 : decode cX9_readsCode 117 = .ok (.if_icmp .ne 10, 3) := by decide +kernel
theorem dX9_readsCode_120 : decode cX9_readsCode 120 = .ok (.aload_n 0, 1) := by decide +kernel
theorem dX9_readsCode_121 : decode cX9_readsCode 121 = .ok (.invokevirtual 120, 3) := by decide +kernel
theorem dX9_readsCode_124 : decode cX9_readsCode 124 = .ok (.goto 31, 3) := by decide +kernel
theorem dX9_readsCode_127 : decode cX9_readsCode 127 = .ok (.iload_n 1, 1) := by decide +kernel
theorem dX9_readsCode_128 : decode cX9_readsCode 128 = .ok (.bipush 115, 2) := by decide +kernel
theorem dX9_readsCode_130 : decode cX9_readsCode 130 = .ok (.if_icmp .ne 10, 3) := by decide +kernel
theorem dX9_readsCode_133 : decode cX9_readsCode 133 = .ok (.aload_n 0, 1) := by decide +kernel
theorem dX9_readsCode_134 : decode cX9_readsCode 134 = .ok (.invokevirtual 123, 3) := by decide +kernel
theorem dX9_readsCode_137 : decode cX9_readsCode 137 = .ok (.goto 18, 3) := by decide +kernel
theorem dX9_readsCode_140 : decode cX9_readsCode 140 = .ok (.aload_n 0, 1) := by decide +kernel
theorem dX9_readsCode_141 : decode cX9_readsCode 141 = .ok (.iload_n 1, 1) := by decide +kernel
theorem dX9_readsCode_142 : decode cX9_readsCode 142 = .ok (.bipush 112, 2) := by decide +kernel
theorem dX9_readsCode_144 : decode cX9_readsCode 144 = .ok (.if_icmp .ne 7, 3) := by decide +kernel
theorem dX9_readsCode_147 : decode cX9_readsCode 147 = .ok (.iconst 1, 1) := by decide +kernel
theorem dX9_readsCode_148 : decode cX9_readsCode 148 = .ok (.goto 4, 3) := by decide +kernel
theorem dX9_readsCode_151 : decode cX9_readsCode 151 = .ok (.iconst 2, 1) := by decide +kernel
theorem dX9_readsCode_152 : decode cX9_readsCode 152 = .ok (.invokevirtual 126, 3) := by decide +kernel
theorem dX9_readsCode_155 : decode cX9_readsCode 155 = .ok (.ireturn, 1) := by decide +kernel
theorem dX9_readsAll_0 : decode cX9_readsAll 0 = .ok (.aload_n 0, 1) := by decide +kernel
theorem dX9_readsAll_1 : decode cX9_readsAll 1 = .ok (.iconst 0, 1) := by decide +kernel
theorem dX9_readsAll_2 : decode cX9_readsAll 2 = .ok (.putfield 85, 3) := by decide +kernel
theorem dX9_readsAll_5 : decode cX9_readsAll 5 = .ok (.aload_n 0, 1) := by decide +kernel
theorem dX9_readsAll_6 : decode cX9_readsAll 6 = .ok (.iconst 0, 1) := by decide +kernel
theorem dX9_readsAll_7 : decode cX9_readsAll 7 = .ok (.putfield 62, 3) := by decide +kernel
theorem dX9_readsAll_10 : decode cX9_readsAll 10 = .ok (.aload_n 0, 1) := by decide +kernel
theorem dX9_readsAll_11 : decode cX9_readsAll 11 = .ok (.invokevirtual 92, 3) := by decide +kernel
theorem dX9_readsAll_14 : decode cX9_readsAll 14 = .ok (.aload_n 0, 1) := by decide +kernel
theorem dX9_readsAll_15 : decode cX9_readsAll 15 = .ok (.getfield 85, 3) := by decide +kernel
theorem dX9_readsAll_18 : decode cX9_readsAll 18 = .ok (.aload_n 0, 1) := by decide +kernel
theorem dX9_readsAll_19 : decode cX9_readsAll 19 = .ok (.getfield 82, 3) := by decide +kernel
theorem dX9_readsAll_22 : decode cX9_readsAll 22 = .ok (.if_icmp .ge 19, 3) := by decide +kernel
theorem dX9_readsAll_25 : decode cX9_readsAll 25 = .ok (.aload_n 0, 1) := by decide +kernel
theorem dX9_readsAll_26 : decode cX9_readsAll 26 = .ok (.invokevirtual 129, 3) := by decide +kernel
theorem dX9_readsAll_29 : decode cX9_readsAll 29 = .ok (.ifCond .ne 5, 3) := by decide +kernel
theorem dX9_readsAll_32 : decode cX9_readsAll 32 = .ok (.iconst 0, 1) := by decide +kernel
theorem dX9_readsAll_33 : decode cX9_readsAll 33 = .ok (.ireturn, 1) := by decide +kernel
theorem dX9_readsAll_34 : decode cX9_readsAll 34 = .ok (.aload_n 0, 1) := by decide +kernel
theorem dX9_readsAll_35 : decode cX9_readsAll 35 = .ok (.invokevirtual 92, 3) := by decide +kernel
theorem dX9_readsAll_38 : decode cX9_readsAll 38 = .ok (.goto (-24), 3) := by decide +kernel
theorem dX9_readsAll_41 : decode cX9_readsAll 41 = .ok (.iconst 1, 1) := by decide +kernel
theorem dX9_readsAll_42 : decode cX9_readsAll 42 = .ok (.ireturn, 1) := by decide +kernel
theorem dX9_lays_0 : decode cX9_lays 0 = .ok (.aload_n 0, 1) := by decide +kernel
theorem dX9_lays_1 : decode cX9_lays 1 = .ok (.getfield 31, 3) := by decide +kernel
theorem dX9_lays_4 : decode cX9_lays 4 = .ok (.iconst 0, 1) := by decide +kernel
theorem dX9_lays_5 : decode cX9_lays 5 = .ok (.aload_n 0, 1) := by decide +kernel
theorem dX9_lays_6 : decode cX9_lays 6 = .ok (.getfield 62, 3) := by decide +kernel
theorem dX9_lays_9 : decode cX9_lays 9 = .ok (.iastore, 1) := by decide +kernel
theorem dX9_lays_10 : decode cX9_lays 10 = .ok (.iconst 0, 1) := by decide +kernel
theorem dX9_lays_11 : decode cX9_lays 11 = .ok (.istore_n 1, 1) := by decide +kernel
theorem dX9_lays_12 : decode cX9_lays 12 = .ok (.iload_n 1, 1) := by decide +kernel
theorem dX9_lays_13 : decode cX9_lays 13 = .ok (.bipush 24, 2) := by decide +kernel
theorem dX9_lays_15 : decode cX9_lays 15 = .ok (.if_icmp .ge 68, 3) := by decide +kernel
theorem dX9_lays_18 : decode cX9_lays 18 = .ok (.aload_n 0, 1) := by decide +kernel
theorem dX9_lays_19 : decode cX9_lays 19 = .ok (.getfield 31, 3) := by decide +kernel
theorem dX9_lays_22 : decode cX9_lays 22 = .ok (.iconst 1, 1) := by decide +kernel
theorem dX9_lays_23 : decode cX9_lays 23 = .ok (.iload_n 1, 1) := by decide +kernel
theorem dX9_lays_24 : decode cX9_lays 24 = .ok (.iadd, 1) := by decide +kernel
theorem dX9_lays_25 : decode cX9_lays 25 = .ok (.aload_n 0, 1) := by decide +kernel
theorem dX9_lays_26 : decode cX9_lays 26 = .ok (.getfield 7, 3) := by decide +kernel
theorem dX9_lays_29 : decode cX9_lays 29 = .ok (.iload_n 1, 1) := by decide +kernel
theorem dX9_lays_30 : decode cX9_lays 30 = .ok (.iaload, 1) := by decide +kernel
theorem dX9_lays_31 : decode cX9_lays 31 = .ok (.iastore, 1) := by decide +kernel
theorem dX9_lays_32 : decode cX9_lays 32 = .ok (.aload_n 0, 1) := by decide +kernel
theorem dX9_lays_33 : decode cX9_lays 33 = .ok (.getfield 31, 3) := by decide +kernel
theorem dX9_lays_36 : decode cX9_lays 36 = .ok (.bipush 25, 2) := by decide +kernel
theorem dX9_lays_38 : decode cX9_lays 38 = .ok (.iload_n 1, 1) := by decide +kernel
theorem dX9_lays_39 : decode cX9_lays 39 = .ok (.iadd, 1) := by decide +kernel
theorem dX9_lays_40 : decode cX9_lays 40 = .ok (.aload_n 0, 1) := by decide +kernel
theorem dX9_lays_41 : decode cX9_lays 41 = .ok (.getfield 13, 3) := by decide +kernel
theorem dX9_lays_44 : decode cX9_lays 44 = .ok (.iload_n 1, 1) := by decide +kernel
theorem dX9_lays_45 : decode cX9_lays 45 = .ok (.iaload, 1) := by decide +kernel
theorem dX9_lays_46 : decode cX9_lays 46 = .ok (.iastore, 1) := by decide +kernel
theorem dX9_lays_47 : decode cX9_lays 47 = .ok (.aload_n 0, 1) := by decide +kernel
theorem dX9_lays_48 : decode cX9_lays 48 = .ok (.getfield 31, 3) := by decide +kernel
theorem dX9_lays_51 : decode cX9_lays 51 = .ok (.bipush 49, 2) := by decide +kernel
theorem dX9_lays_53 : decode cX9_lays 53 = .ok (.iload_n 1, 1) := by decide +kernel
theorem dX9_lays_54 : decode cX9_lays 54 = .ok (.iadd, 1) := by decide +kernel
theorem dX9_lays_55 : decode cX9_lays 55 = .ok (.aload_n 0, 1) := by decide +kernel
theorem dX9_lays_56 : decode cX9_lays 56 = .ok (.getfield 16, 3) := by decide +kernel
theorem dX9_lays_59 : decode cX9_lays 59 = .ok (.iload_n 1, 1) := by decide +kernel
theorem dX9_lays_60 : decode cX9_lays 60 = .ok (.iaload, 1) := by decide +kernel
theorem dX9_lays_61 : decode cX9_lays 61 = .ok (.iastore, 1) := by decide +kernel
theorem dX9_lays_62 : decode cX9_lays 62 = .ok (.aload_n 0, 1) := by decide +kernel
theorem dX9_lays_63 : decode cX9_lays 63 = .ok (.getfield 31, 3) := by decide +kernel
theorem dX9_lays_66 : decode cX9_lays 66 = .ok (.bipush 73, 2) := by decide +kernel
theorem dX9_lays_68 : decode cX9_lays 68 = .ok (.iload_n 1, 1) := by decide +kernel
theorem dX9_lays_69 : decode cX9_lays 69 = .ok (.iadd, 1) := by decide +kernel
theorem dX9_lays_70 : decode cX9_lays 70 = .ok (.aload_n 0, 1) := by decide +kernel
theorem dX9_lays_71 : decode cX9_lays 71 = .ok (.getfield 19, 3) := by decide +kernel
theorem dX9_lays_74 : decode cX9_lays 74 = .ok (.iload_n 1, 1) := by decide +kernel
theorem dX9_lays_75 : decode cX9_lays 75 = .ok (.iaload, 1) := by decide +kernel
theorem dX9_lays_76 : decode cX9_lays 76 = .ok (.iastore, 1) := by decide +kernel
theorem dX9_lays_77 : decode cX9_lays 77 = .ok (.iinc 1 1, 3) := by decide +kernel
theorem dX9_lays_80 : decode cX9_lays 80 = .ok (.goto (-68), 3) := by decide +kernel
theorem dX9_lays_83 : decode cX9_lays 83 = .ok (.return_, 1) := by decide +kernel
theorem dX9_takes_0 : decode cX9_takes 0 = .ok (.aload_n 0, 1) := by decide +kernel
theorem dX9_takes_1 : decode cX9_takes 1 = .ok (.getfield 31, 3) := by decide +kernel
theorem dX9_takes_4 : decode cX9_takes 4 = .ok (.iconst 0, 1) := by decide +kernel
theorem dX9_takes_5 : decode cX9_takes 5 = .ok (.iaload, 1) := by decide +kernel
theorem dX9_takes_6 : decode cX9_takes 6 = .ok (.istore_n 1, 1) := by decide +kernel
theorem dX9_takes_7 : decode cX9_takes 7 = .ok (.aload_n 0, 1) := by decide +kernel
theorem dX9_takes_8 : decode cX9_takes 8 = .ok (.iconst 0, 1) := by decide +kernel
theorem dX9_takes_9 : decode cX9_takes 9 = .ok (.putfield 62, 3) := by decide +kernel
theorem dX9_takes_12 : decode cX9_takes 12 = .ok (.iconst 0, 1) := by decide +kernel
theorem dX9_takes_13 : decode cX9_takes 13 = .ok (.istore_n 2, 1) := by decide +kernel
theorem dX9_takes_14 : decode cX9_takes 14 = .ok (.iload_n 2, 1) := by decide +kernel
theorem dX9_takes_15 : decode cX9_takes 15 = .ok (.iload_n 1, 1) := by decide +kernel
theorem dX9_takes_16 : decode cX9_takes 16 = .ok (.if_icmp .ge 48, 3) := by decide +kernel
theorem dX9_takes_19 : decode cX9_takes 19 = .ok (.aload_n 0, 1) := by decide +kernel
theorem dX9_takes_20 : decode cX9_takes 20 = .ok (.aload_n 0, 1) := by decide +kernel
theorem dX9_takes_21 : decode cX9_takes 21 = .ok (.getfield 31, 3) := by decide +kernel
theorem dX9_takes_24 : decode cX9_takes 24 = .ok (.iconst 1, 1) := by decide +kernel
theorem dX9_takes_25 : decode cX9_takes 25 = .ok (.iload_n 2, 1) := by decide +kernel
theorem dX9_takes_26 : decode cX9_takes 26 = .ok (.iadd, 1) := by decide +kernel
theorem dX9_takes_27 : decode cX9_takes 27 = .ok (.iaload, 1) := by decide +kernel
theorem dX9_takes_28 : decode cX9_takes 28 = .ok (.aload_n 0, 1) := by decide +kernel
theorem dX9_takes_29 : decode cX9_takes 29 = .ok (.getfield 31, 3) := by decide +kernel
theorem dX9_takes_32 : decode cX9_takes 32 = .ok (.bipush 25, 2) := by decide +kernel
theorem dX9_takes_34 : decode cX9_takes 34 = .ok (.iload_n 2, 1) := by decide +kernel
theorem dX9_takes_35 : decode cX9_takes 35 = .ok (.iadd, 1) := by decide +kernel
theorem dX9_takes_36 : decode cX9_takes 36 = .ok (.iaload, 1) := by decide +kernel
theorem dX9_takes_37 : decode cX9_takes 37 = .ok (.aload_n 0, 1) := by decide +kernel
theorem dX9_takes_38 : decode cX9_takes 38 = .ok (.getfield 31, 3) := by decide +kernel
theorem dX9_takes_41 : decode cX9_takes 41 = .ok (.bipush 49, 2) := by decide +kernel
theorem dX9_takes_43 : decode cX9_takes 43 = .ok (.iload_n 2, 1) := by decide +kernel
theorem dX9_takes_44 : decode cX9_takes 44 = .ok (.iadd, 1) := by decide +kernel
theorem dX9_takes_45 : decode cX9_takes 45 = .ok (.iaload, 1) := by decide +kernel
theorem dX9_takes_46 : decode cX9_takes 46 = .ok (.aload_n 0, 1) := by decide +kernel
theorem dX9_takes_47 : decode cX9_takes 47 = .ok (.getfield 31, 3) := by decide +kernel
theorem dX9_takes_50 : decode cX9_takes 50 = .ok (.bipush 73, 2) := by decide +kernel
theorem dX9_takes_52 : decode cX9_takes 52 = .ok (.iload_n 2, 1) := by decide +kernel
theorem dX9_takes_53 : decode cX9_takes 53 = .ok (.iadd, 1) := by decide +kernel
theorem dX9_takes_54 : decode cX9_takes 54 = .ok (.iaload, 1) := by decide +kernel
theorem dX9_takes_55 : decode cX9_takes 55 = .ok (.invokevirtual 102, 3) := by decide +kernel
theorem dX9_takes_58 : decode cX9_takes 58 = .ok (.iinc 2 1, 3) := by decide +kernel
theorem dX9_takes_61 : decode cX9_takes 61 = .ok (.goto (-47), 3) := by decide +kernel
theorem dX9_takes_64 : decode cX9_takes 64 = .ok (.return_, 1) := by decide +kernel
theorem dX9_tables_0 : decode cX9_tables 0 = .ok (.aload_n 0, 1) := by decide +kernel
theorem dX9_tables_1 : decode cX9_tables 1 = .ok (.invokevirtual 132, 3) := by decide +kernel
theorem dX9_tables_4 : decode cX9_tables 4 = .ok (.aload_n 0, 1) := by decide +kernel
theorem dX9_tables_5 : decode cX9_tables 5 = .ok (.invokevirtual 135, 3) := by decide +kernel
theorem dX9_tables_8 : decode cX9_tables 8 = .ok (.ifCond .ne 15, 3) := by decide +kernel
theorem dX9_tables_11 : decode cX9_tables 11 = .ok (.aload_n 0, 1) := by decide +kernel
theorem dX9_tables_12 : decode cX9_tables 12 = .ok (.invokevirtual 138, 3) := by decide +kernel
theorem dX9_tables_15 : decode cX9_tables 15 = .ok (.bipush (-10), 2) := by decide +kernel
theorem dX9_tables_17 : decode cX9_tables 17 = .ok (.aload_n 0, 1) := by decide +kernel
theorem dX9_tables_18 : decode cX9_tables 18 = .ok (.getfield 85, 3) := by decide +kernel
theorem dX9_tables_21 : decode cX9_tables 21 = .ok (.isub, 1) := by decide +kernel
theorem dX9_tables_22 : decode cX9_tables 22 = .ok (.ireturn, 1) := by decide +kernel
theorem dX9_tables_23 : decode cX9_tables 23 = .ok (.aload_n 0, 1) := by decide +kernel
theorem dX9_tables_24 : decode cX9_tables 24 = .ok (.iconst 0, 1) := by decide +kernel
theorem dX9_tables_25 : decode cX9_tables 25 = .ok (.putfield 82, 3) := by decide +kernel
theorem dX9_tables_28 : decode cX9_tables 28 = .ok (.aload_n 0, 1) := by decide +kernel
theorem dX9_tables_29 : decode cX9_tables 29 = .ok (.iconst 0, 1) := by decide +kernel
theorem dX9_tables_30 : decode cX9_tables 30 = .ok (.putfield 141, 3) := by decide +kernel
theorem dX9_tables_33 : decode cX9_tables 33 = .ok (.aload_n 0, 1) := by decide +kernel
theorem dX9_tables_34 : decode cX9_tables 34 = .ok (.iconst 0, 1) := by decide +kernel
theorem dX9_tables_35 : decode cX9_tables 35 = .ok (.putfield 144, 3) := by decide +kernel
theorem dX9_tables_38 : decode cX9_tables 38 = .ok (.iconst 0, 1) := by decide +kernel
theorem dX9_tables_39 : decode cX9_tables 39 = .ok (.istore_n 1, 1) := by decide +kernel
theorem dX9_tables_40 : decode cX9_tables 40 = .ok (.iload_n 1, 1) := by decide +kernel
theorem dX9_tables_41 : decode cX9_tables 41 = .ok (.iconst 4, 1) := by decide +kernel
theorem dX9_tables_42 : decode cX9_tables 42 = .ok (.if_icmp .ge 16, 3) := by decide +kernel
theorem dX9_tables_45 : decode cX9_tables 45 = .ok (.aload_n 0, 1) := by decide +kernel
theorem dX9_tables_46 : decode cX9_tables 46 = .ok (.getfield 34, 3) := by decide +kernel
theorem dX9_tables_49 : decode cX9_tables 49 = .ok (.iload_n 1, 1) := by decide +kernel
theorem dX9_tables_50 : decode cX9_tables 50 = .ok (.iconst 0, 1) := by decide +kernel
theorem dX9_tables_51 : decode cX9_tables 51 = .ok (.iastore, 1) := by decide +kernel
theorem dX9_tables_52 : decode cX9_tables 52 = .ok (.iinc 1 1, 3) := by decide +kernel
theorem dX9_tables_55 : decode cX9_tables 55 = .ok (.goto (-15), 3) := by decide +kernel
theorem dX9_tables_58 : decode cX9_tables 58 = .ok (.aload_n 0, 1) := by decide +kernel
theorem dX9_tables_59 : decode cX9_tables 59 = .ok (.getfield 59, 3) := by decide +kernel
theorem dX9_tables_62 : decode cX9_tables 62 = .ok (.iconst 0, 1) := by decide +kernel
theorem dX9_tables_63 : decode cX9_tables 63 = .ok (.iconst 0, 1) := by decide +kernel
theorem dX9_tables_64 : decode cX9_tables 64 = .ok (.iastore, 1) := by decide +kernel
theorem dX9_tables_65 : decode cX9_tables 65 = .ok (.aload_n 0, 1) := by decide +kernel
theorem dX9_tables_66 : decode cX9_tables 66 = .ok (.getfield 59, 3) := by decide +kernel
theorem dX9_tables_69 : decode cX9_tables 69 = .ok (.bipush 74, 2) := by decide +kernel
theorem dX9_tables_71 : decode cX9_tables 71 = .ok (.iconst 0, 1) := by decide +kernel
theorem dX9_tables_72 : decode cX9_tables 72 = .ok (.iastore, 1) := by decide +kernel
theorem dX9_tables_73 : decode cX9_tables 73 = .ok (.aload_n 0, 1) := by decide +kernel
theorem dX9_tables_74 : decode cX9_tables 74 = .ok (.getfield 62, 3) := by decide +kernel
theorem dX9_tables_77 : decode cX9_tables 77 = .ok (.ireturn, 1) := by decide +kernel
theorem dX9_isText_0 : decode cX9_isText 0 = .ok (.iload_n 0, 1) := by decide +kernel
theorem dX9_isText_1 : decode cX9_isText 1 = .ok (.iconst 0, 1) := by decide +kernel
theorem dX9_isText_2 : decode cX9_isText 2 = .ok (.iconst 3, 1) := by decide +kernel
theorem dX9_isText_3 : decode cX9_isText 3 = .ok (.invokestatic 66, 3) := by decide +kernel
theorem dX9_isText_6 : decode cX9_isText 6 = .ok (.ireturn, 1) := by decide +kernel
theorem dX9_isRule_0 : decode cX9_isRule 0 = .ok (.iload_n 0, 1) := by decide +kernel
theorem dX9_isRule_1 : decode cX9_isRule 1 = .ok (.iconst 0, 1) := by decide +kernel
theorem dX9_isRule_2 : decode cX9_isRule 2 = .ok (.iconst 5, 1) := by decide +kernel
theorem dX9_isRule_3 : decode cX9_isRule 3 = .ok (.invokestatic 66, 3) := by decide +kernel
theorem dX9_isRule_6 : decode cX9_isRule 6 = .ok (.ireturn, 1) := by decide +kernel
theorem dX9_notes_0 : decode cX9_notes 0 = .ok (.aload_n 0, 1) := by decide +kernel
theorem dX9_notes_1 : decode cX9_notes 1 = .ok (.getfield 144, 3) := by decide +kernel
theorem dX9_notes_4 : decode cX9_notes 4 = .ok (.bipush 10, 2) := by decide +kernel
theorem dX9_notes_6 : decode cX9_notes 6 = .ok (.if_icmp .ne 43, 3) := by decide +kernel
theorem dX9_notes_9 : decode cX9_notes 9 = .ok (.iconst 0, 1) := by decide +kernel
theorem dX9_notes_10 : decode cX9_notes 10 = .ok (.istore_n 2, 1) := by decide +kernel
theorem dX9_notes_11 : decode cX9_notes 11 = .ok (.iload_n 2, 1) := by decide +kernel
theorem dX9_notes_12 : decode cX9_notes 12 = .ok (.sipush 162, 3) := by decide +kernel
theorem dX9_notes_15 : decode cX9_notes 15 = .ok (.if_icmp .ge 24, 3) := by decide +kernel
theorem dX9_notes_18 : decode cX9_notes 18 = .ok (.aload_n 0, 1) := by decide +kernel
theorem dX9_notes_19 : decode cX9_notes 19 = .ok (.getfield 43, 3) := by decide +kernel
theorem dX9_notes_22 : decode cX9_notes 22 = .ok (.iload_n 2, 1) := by decide +kernel
theorem dX9_notes_23 : decode cX9_notes 23 = .ok (.aload_n 0, 1) := by decide +kernel
theorem dX9_notes_24 : decode cX9_notes 24 = .ok (.getfield 43, 3) := by decide +kernel
theorem dX9_notes_27 : decode cX9_notes 27 = .ok (.iload_n 2, 1) := by decide +kernel
theorem dX9_notes_28 : decode cX9_notes 28 = .ok (.bipush 18, 2) := by decide +kernel
theorem dX9_notes_30 : decode cX9_notes 30 = .ok (.iadd, 1) := by decide +kernel
theorem dX9_notes_31 : decode cX9_notes 31 = .ok (.iaload, 1) := by decide +kernel
theorem dX9_notes_32 : decode cX9_notes 32 = .ok (.iastore, 1) := by decide +kernel
theorem dX9_notes_33 : decode cX9_notes 33 = .ok (.iinc 2 1, 3) := by decide +kernel
theorem dX9_notes_36 : decode cX9_notes 36 = .ok (.goto (-25), 3) := by decide +kernel
theorem dX9_notes_39 : decode cX9_notes 39 = .ok (.aload_n 0, 1) := by decide +kernel
theorem dX9_notes_40 : decode cX9_notes 40 = .ok (.dup, 1) := by decide +kernel
theorem dX9_notes_41 : decode cX9_notes 41 = .ok (.getfield 144, 3) := by decide +kernel
theorem dX9_notes_44 : decode cX9_notes 44 = .ok (.iconst 1, 1) := by decide +kernel
theorem dX9_notes_45 : decode cX9_notes 45 = .ok (.isub, 1) := by decide +kernel
theorem dX9_notes_46 : decode cX9_notes 46 = .ok (.putfield 144, 3) := by decide +kernel
theorem dX9_notes_49 : decode cX9_notes 49 = .ok (.bipush 18, 2) := by decide +kernel
theorem dX9_notes_51 : decode cX9_notes 51 = .ok (.aload_n 0, 1) := by decide +kernel
theorem dX9_notes_52 : decode cX9_notes 52 = .ok (.getfield 144, 3) := by decide +kernel
theorem dX9_notes_55 : decode cX9_notes 55 = .ok (.imul, 1) := by decide +kernel
theorem dX9_notes_56 : decode cX9_notes 56 = .ok (.istore_n 2, 1) := by decide +kernel
theorem dX9_notes_57 : decode cX9_notes 57 = .ok (.aload_n 0, 1) := by decide +kernel
theorem dX9_notes_58 : decode cX9_notes 58 = .ok (.getfield 43, 3) := by decide +kernel
theorem dX9_notes_61 : decode cX9_notes 61 = .ok (.iload_n 2, 1) := by decide +kernel
theorem dX9_notes_62 : decode cX9_notes 62 = .ok (.iload_n 1, 1) := by decide +kernel
theorem dX9_notes_63 : decode cX9_notes 63 = .ok (.iastore, 1) := by decide +kernel
theorem dX9_notes_64 : decode cX9_notes 64 = .ok (.aload_n 0, 1) := by decide +kernel
theorem dX9_notes_65 : decode cX9_notes 65 = .ok (.getfield 43, 3) := by decide +kernel
theorem dX9_notes_68 : decode cX9_notes 68 = .ok (.iload_n 2, 1) := by decide +kernel
theorem dX9_notes_69 : decode cX9_notes 69 = .ok (.iconst 1, 1) := by decide +kernel
theorem dX9_notes_70 : decode cX9_notes 70 = .ok (.iadd, 1) := by decide +kernel
theorem dX9_notes_71 : decode cX9_notes 71 = .ok (.aload_n 0, 1) := by decide +kernel
theorem dX9_notes_72 : decode cX9_notes 72 = .ok (.getfield 34, 3) := by decide +kernel
theorem dX9_notes_75 : decode cX9_notes 75 = .ok (.iload_n 1, 1) := by decide +kernel
theorem dX9_notes_76 : decode cX9_notes 76 = .ok (.iaload, 1) := by decide +kernel
theorem dX9_notes_77 : decode cX9_notes 77 = .ok (.iastore, 1) := by decide +kernel
theorem dX9_notes_78 : decode cX9_notes 78 = .ok (.iconst 0, 1) := by decide +kernel
theorem dX9_notes_79 : decode cX9_notes 79 = .ok (.istore_n 3, 1) := by decide +kernel
theorem dX9_notes_80 : decode cX9_notes 80 = .ok (.iload_n 3, 1) := by decide +kernel
theorem dX9_notes_81 : decode cX9_notes 81 = .ok (.bipush 16, 2) := by decide +kernel
theorem dX9_notes_83 : decode cX9_notes 83 = .ok (.if_icmp .ge 30, 3) := by decide +kernel
theorem dX9_notes_86 : decode cX9_notes 86 = .ok (.aload_n 0, 1) := by decide +kernel
theorem dX9_notes_87 : decode cX9_notes 87 = .ok (.getfield 43, 3) := by decide +kernel
theorem dX9_notes_90 : decode cX9_notes 90 = .ok (.iload_n 2, 1) := by decide +kernel
theorem dX9_notes_91 : decode cX9_notes 91 = .ok (.iconst 2, 1) := by decide +kernel
theorem dX9_notes_92 : decode cX9_notes 92 = .ok (.iadd, 1) := by decide +kernel
theorem dX9_notes_93 : decode cX9_notes 93 = .ok (.iload_n 3, 1) := by decide +kernel
theorem dX9_notes_94 : decode cX9_notes 94 = .ok (.iadd, 1) := by decide +kernel
theorem dX9_notes_95 : decode cX9_notes 95 = .ok (.aload_n 0, 1) := by decide +kernel
theorem dX9_notes_96 : decode cX9_notes 96 = .ok (.getfield 37, 3) := by decide +kernel
theorem dX9_notes_99 : decode cX9_notes 99 = .ok (.bipush 16, 2) := by decide +kernel
theorem dX9_notes_101 : decode cX9_notes 101 = .ok (.iload_n 1, 1) := by decide +kernel
theorem dX9_notes_102 : decode cX9_notes 102 = .ok (.imul, 1) := by decide +kernel
theorem dX9_notes_103 : decode cX9_notes 103 = .ok (.iload_n 3, 1) := by decide +kernel
theorem dX9_notes_104 : decode cX9_notes 104 = .ok (.iadd, 1) := by decide +kernel
theorem dX9_notes_105 : decode cX9_notes 105 = .ok (.iaload, 1) := by decide +kernel
theorem dX9_notes_106 : decode cX9_notes 106 = .ok (.iastore, 1) := by decide +kernel
theorem dX9_notes_107 : decode cX9_notes 107 = .ok (.iinc 3 1, 3) := by decide +kernel
theorem dX9_notes_110 : decode cX9_notes 110 = .ok (.goto (-30), 3) := by decide +kernel
theorem dX9_notes_113 : decode cX9_notes 113 = .ok (.aload_n 0, 1) := by decide +kernel
theorem dX9_notes_114 : decode cX9_notes 114 = .ok (.dup, 1) := by decide +kernel
theorem dX9_notes_115 : decode cX9_notes 115 = .ok (.getfield 144, 3) := by decide +kernel
theorem dX9_notes_118 : decode cX9_notes 118 = .ok (.iconst 1, 1) := by decide +kernel
theorem dX9_notes_119 : decode cX9_notes 119 = .ok (.iadd, 1) := by decide +kernel
theorem dX9_notes_120 : decode cX9_notes 120 = .ok (.putfield 144, 3) := by decide +kernel
theorem dX9_notes_123 : decode cX9_notes 123 = .ok (.return_, 1) := by decide +kernel
theorem dX9_adds_0 : decode cX9_adds 0 = .ok (.aload_n 0, 1) := by decide +kernel
theorem dX9_adds_1 : decode cX9_adds 1 = .ok (.getfield 37, 3) := by decide +kernel
theorem dX9_adds_4 : decode cX9_adds 4 = .ok (.bipush 16, 2) := by decide +kernel
theorem dX9_adds_6 : decode cX9_adds 6 = .ok (.iload_n 1, 1) := by decide +kernel
theorem dX9_adds_7 : decode cX9_adds 7 = .ok (.imul, 1) := by decide +kernel
theorem dX9_adds_8 : decode cX9_adds 8 = .ok (.aload_n 0, 1) := by decide +kernel
theorem dX9_adds_9 : decode cX9_adds 9 = .ok (.getfield 34, 3) := by decide +kernel
theorem dX9_adds_12 : decode cX9_adds 12 = .ok (.iload_n 1, 1) := by decide +kernel
theorem dX9_adds_13 : decode cX9_adds 13 = .ok (.iaload, 1) := by decide +kernel
theorem dX9_adds_14 : decode cX9_adds 14 = .ok (.iadd, 1) := by decide +kernel
theorem dX9_adds_15 : decode cX9_adds 15 = .ok (.iload_n 2, 1) := by decide +kernel
theorem dX9_adds_16 : decode cX9_adds 16 = .ok (.iastore, 1) := by decide +kernel
theorem dX9_adds_17 : decode cX9_adds 17 = .ok (.aload_n 0, 1) := by decide +kernel
theorem dX9_adds_18 : decode cX9_adds 18 = .ok (.getfield 34, 3) := by decide +kernel
theorem dX9_adds_21 : decode cX9_adds 21 = .ok (.iload_n 1, 1) := by decide +kernel
theorem dX9_adds_22 : decode cX9_adds 22 = .ok (.dup2, 1) := by decide +kernel
theorem dX9_adds_23 : decode cX9_adds 23 = .ok (.iaload, 1) := by decide +kernel
theorem dX9_adds_24 : decode cX9_adds 24 = .ok (.iconst 1, 1) := by decide +kernel
theorem dX9_adds_25 : decode cX9_adds 25 = .ok (.iadd, 1) := by decide +kernel
theorem dX9_adds_26 : decode cX9_adds 26 = .ok (.iastore, 1) := by decide +kernel
theorem dX9_adds_27 : decode cX9_adds 27 = .ok (.return_, 1) := by decide +kernel
theorem dX9_puts_0 : decode cX9_puts 0 = .ok (.iload_n 1, 1) := by decide +kernel
theorem dX9_puts_1 : decode cX9_puts 1 = .ok (.invokestatic 147, 3) := by decide +kernel
theorem dX9_puts_4 : decode cX9_puts 4 = .ok (.ifCond .eq 11, 3) := by decide +kernel
theorem dX9_puts_7 : decode cX9_puts 7 = .ok (.aload_n 0, 1) := by decide +kernel
theorem dX9_puts_8 : decode cX9_puts 8 = .ok (.iload_n 2, 1) := by decide +kernel
theorem dX9_puts_9 : decode cX9_puts 9 = .ok (.invokevirtual 74, 3) := by decide +kernel
theorem dX9_puts_12 : decode cX9_puts 12 = .ok (.ifCond .ne 5, 3) := by decide +kernel
theorem dX9_puts_15 : decode cX9_puts 15 = .ok (.iconst (-1), 1) := by decide +kernel
theorem dX9_puts_16 : decode cX9_puts 16 = .ok (.ireturn, 1) := by decide +kernel
theorem dX9_puts_17 : decode cX9_puts 17 = .ok (.aload_n 0, 1) := by decide +kernel
theorem dX9_puts_18 : decode cX9_puts 18 = .ok (.getfield 34, 3) := by decide +kernel
theorem dX9_puts_21 : decode cX9_puts 21 = .ok (.iload_n 1, 1) := by decide +kernel
theorem dX9_puts_22 : decode cX9_puts 22 = .ok (.iaload, 1) := by decide +kernel
theorem dX9_puts_23 : decode cX9_puts 23 = .ok (.bipush 16, 2) := by decide +kernel
theorem dX9_puts_25 : decode cX9_puts 25 = .ok (.if_icmp .ne 6, 3) := by decide +kernel
theorem dX9_puts_28 : decode cX9_puts 28 = .ok (.bipush (-3), 2) := by decide +kernel
theorem dX9_puts_30 : decode cX9_puts 30 = .ok (.ireturn, 1) := by decide +kernel
theorem dX9_puts_31 : decode cX9_puts 31 = .ok (.aload_n 0, 1) := by decide +kernel
theorem dX9_puts_32 : decode cX9_puts 32 = .ok (.iload_n 1, 1) := by decide +kernel
theorem dX9_puts_33 : decode cX9_puts 33 = .ok (.invokevirtual 150, 3) := by decide +kernel
theorem dX9_puts_36 : decode cX9_puts 36 = .ok (.aload_n 0, 1) := by decide +kernel
theorem dX9_puts_37 : decode cX9_puts 37 = .ok (.iload_n 1, 1) := by decide +kernel
theorem dX9_puts_38 : decode cX9_puts 38 = .ok (.iload_n 2, 1) := by decide +kernel
theorem dX9_puts_39 : decode cX9_puts 39 = .ok (.invokevirtual 154, 3) := by decide +kernel
theorem dX9_puts_42 : decode cX9_puts 42 = .ok (.aload_n 0, 1) := by decide +kernel
theorem dX9_puts_43 : decode cX9_puts 43 = .ok (.getfield 34, 3) := by decide +kernel
theorem dX9_puts_46 : decode cX9_puts 46 = .ok (.iload_n 1, 1) := by decide +kernel
theorem dX9_puts_47 : decode cX9_puts 47 = .ok (.iaload, 1) := by decide +kernel
theorem dX9_puts_48 : decode cX9_puts 48 = .ok (.ireturn, 1) := by decide +kernel
theorem dX9_cuts_0 : decode cX9_cuts 0 = .ok (.iload_n 1, 1) := by decide +kernel
theorem dX9_cuts_1 : decode cX9_cuts 1 = .ok (.invokestatic 147, 3) := by decide +kernel
theorem dX9_cuts_4 : decode cX9_cuts 4 = .ok (.ifCond .ne 5, 3) := by decide +kernel
theorem dX9_cuts_7 : decode cX9_cuts 7 = .ok (.iconst (-1), 1) := by decide +kernel
theorem dX9_cuts_8 : decode cX9_cuts 8 = .ok (.ireturn, 1) := by decide +kernel
theorem dX9_cuts_9 : decode cX9_cuts 9 = .ok (.aload_n 0, 1) := by decide +kernel
theorem dX9_cuts_10 : decode cX9_cuts 10 = .ok (.getfield 34, 3) := by decide +kernel
theorem dX9_cuts_13 : decode cX9_cuts 13 = .ok (.iload_n 1, 1) := by decide +kernel
theorem dX9_cuts_14 : decode cX9_cuts 14 = .ok (.iaload, 1) := by decide +kernel
theorem dX9_cuts_15 : decode cX9_cuts 15 = .ok (.ifCond .ne 6, 3) := by decide +kernel
theorem dX9_cuts_18 : decode cX9_cuts 18 = .ok (.bipush (-2), 2) := by decide +kernel
theorem dX9_cuts_20 : decode cX9_cuts 20 = .ok (.ireturn, 1) := by decide +kernel
theorem dX9_cuts_21 : decode cX9_cuts 21 = .ok (.aload_n 0, 1) := by decide +kernel
theorem dX9_cuts_22 : decode cX9_cuts 22 = .ok (.iload_n 1, 1) := by decide +kernel
theorem dX9_cuts_23 : decode cX9_cuts 23 = .ok (.invokevirtual 150, 3) := by decide +kernel
theorem dX9_cuts_26 : decode cX9_cuts 26 = .ok (.aload_n 0, 1) := by decide +kernel
theorem dX9_cuts_27 : decode cX9_cuts 27 = .ok (.getfield 34, 3) := by decide +kernel
theorem dX9_cuts_30 : decode cX9_cuts 30 = .ok (.iload_n 1, 1) := by decide +kernel
theorem dX9_cuts_31 : decode cX9_cuts 31 = .ok (.dup2, 1) := by decide +kernel
theorem dX9_cuts_32 : decode cX9_cuts 32 = .ok (.iaload, 1) := by decide +kernel
theorem dX9_cuts_33 : decode cX9_cuts 33 = .ok (.iconst 1, 1) := by decide +kernel
theorem dX9_cuts_34 : decode cX9_cuts 34 = .ok (.isub, 1) := by decide +kernel
theorem dX9_cuts_35 : decode cX9_cuts 35 = .ok (.iastore, 1) := by decide +kernel
theorem dX9_cuts_36 : decode cX9_cuts 36 = .ok (.aload_n 0, 1) := by decide +kernel
theorem dX9_cuts_37 : decode cX9_cuts 37 = .ok (.getfield 37, 3) := by decide +kernel
theorem dX9_cuts_40 : decode cX9_cuts 40 = .ok (.bipush 16, 2) := by decide +kernel
theorem dX9_cuts_42 : decode cX9_cuts 42 = .ok (.iload_n 1, 1) := by decide +kernel
theorem dX9_cuts_43 : decode cX9_cuts 43 = .ok (.imul, 1) := by decide +kernel
theorem dX9_cuts_44 : decode cX9_cuts 44 = .ok (.aload_n 0, 1) := by decide +kernel
theorem dX9_cuts_45 : decode cX9_cuts 45 = .ok (.getfield 34, 3) := by decide +kernel
theorem dX9_cuts_48 : decode cX9_cuts 48 = .ok (.iload_n 1, 1) := by decide +kernel
theorem dX9_cuts_49 : decode cX9_cuts 49 = .ok (.iaload, 1) := by decide +kernel
theorem dX9_cuts_50 : decode cX9_cuts 50 = .ok (.iadd, 1) := by decide +kernel
theorem dX9_cuts_51 : decode cX9_cuts 51 = .ok (.iaload, 1) := by decide +kernel
theorem dX9_cuts_52 : decode cX9_cuts 52 = .ok (.ireturn, 1) := by decide +kernel
theorem dX9_appends_0 : decode cX9_appends 0 = .ok (.iload_n 1, 1) := by decide +kernel
theorem dX9_appends_1 : decode cX9_appends 1 = .ok (.invokestatic 147, 3) := by decide +kernel
theorem dX9_appends_4 : decode cX9_appends 4 = .ok (.ifCond .eq 10, 3) := by decide +kernel
theorem dX9_appends_7 : decode cX9_appends 7 = .ok (.iload_n 2, 1) := by decide +kernel
theorem dX9_appends_8 : decode cX9_appends 8 = .ok (.invokestatic 147, 3) := by decide +kernel
theorem dX9_appends_11 : decode cX9_appends 11 = .ok (.ifCond .ne 5, 3) := by decide +kernel
theorem dX9_appends_14 : decode cX9_appends 14 = .ok (.iconst (-1), 1) := by decide +kernel
theorem dX9_appends_15 : decode cX9_appends 15 = .ok (.ireturn, 1) := by decide +kernel
theorem dX9_appends_16 : decode cX9_appends 16 = .ok (.aload_n 0, 1) := by decide +kernel
theorem dX9_appends_17 : decode cX9_appends 17 = .ok (.getfield 34, 3) := by decide +kernel
theorem dX9_appends_20 : decode cX9_appends 20 = .ok (.iload_n 2, 1) := by decide +kernel
theorem dX9_appends_21 : decode cX9_appends 21 = .ok (.iaload, 1) := by decide +kernel
theorem dX9_appends_22 : decode cX9_appends 22 = .ok (.istore_n 3, 1) := by decide +kernel
theorem dX9_appends_23 : decode cX9_appends 23 = .ok (.aload_n 0, 1) := by decide +kernel
theorem dX9_appends_24 : decode cX9_appends 24 = .ok (.getfield 34, 3) := by decide +kernel
theorem dX9_appends_27 : decode cX9_appends 27 = .ok (.iload_n 1, 1) := by decide +kernel
theorem dX9_appends_28 : decode cX9_appends 28 = .ok (.iaload, 1) := by decide +kernel
theorem dX9_appends_29 : decode cX9_appends 29 = .ok (.iload_n 3, 1) := by decide +kernel
theorem dX9_appends_30 : decode cX9_appends 30 = .ok (.iadd, 1) := by decide +kernel
theorem dX9_appends_31 : decode cX9_appends 31 = .ok (.bipush 16, 2) := by decide +kernel
theorem dX9_appends_33 : decode cX9_appends 33 = .ok (.if_icmp .le 6, 3) := by decide +kernel
theorem dX9_appends_36 : decode cX9_appends 36 = .ok (.bipush (-3), 2) := by decide +kernel
theorem dX9_appends_38 : decode cX9_appends 38 = .ok (.ireturn, 1) := by decide +kernel
theorem dX9_appends_39 : decode cX9_appends 39 = .ok (.aload_n 0, 1) := by decide +kernel
theorem dX9_appends_40 : decode cX9_appends 40 = .ok (.iload_n 1, 1) := by decide +kernel
theorem dX9_appends_41 : decode cX9_appends 41 = .ok (.invokevirtual 150, 3) := by decide +kernel
theorem dX9_appends_44 : decode cX9_appends 44 = .ok (.iconst 0, 1) := by decide +kernel
theorem dX9_appends_45 : decode cX9_appends 45 = .ok (.istore 4, 2) := by decide +kernel
theorem dX9_appends_47 : decode cX9_appends 47 = .ok (.iload 4, 2) := by decide +kernel
theorem dX9_appends_49 : decode cX9_appends 49 = .ok (.iload_n 3, 1) := by decide +kernel
theorem dX9_appends_50 : decode cX9_appends 50 = .ok (.if_icmp .ge 26, 3) := by decide +kernel
theorem dX9_appends_53 : decode cX9_appends 53 = .ok (.aload_n 0, 1) := by decide +kernel
theorem dX9_appends_54 : decode cX9_appends 54 = .ok (.iload_n 1, 1) := by decide +kernel
theorem dX9_appends_55 : decode cX9_appends 55 = .ok (.aload_n 0, 1) := by decide +kernel
theorem dX9_appends_56 : decode cX9_appends 56 = .ok (.getfield 37, 3) := by decide +kernel
theorem dX9_appends_59 : decode cX9_appends 59 = .ok (.bipush 16, 2) := by decide +kernel
theorem dX9_appends_61 : decode cX9_appends 61 = .ok (.iload_n 2, 1) := by decide +kernel
theorem dX9_appends_62 : decode cX9_appends 62 = .ok (.imul, 1) := by decide +kernel
theorem dX9_appends_63 : decode cX9_appends 63 = .ok (.iload 4, 2) := by decide +kernel
theorem dX9_appends_65 : decode cX9_appends 65 = .ok (.iadd, 1) := by decide +kernel
theorem dX9_appends_66 : decode cX9_appends 66 = .ok (.iaload, 1) := by decide +kernel
theorem dX9_appends_67 : decode cX9_appends 67 = .ok (.invokevirtual 154, 3) := by decide +kernel
theorem dX9_appends_70 : decode cX9_appends 70 = .ok (.iinc 4 1, 3) := by decide +kernel
theorem dX9_appends_73 : decode cX9_appends 73 = .ok (.goto (-26), 3) := by decide +kernel
theorem dX9_appends_76 : decode cX9_appends 76 = .ok (.aload_n 0, 1) := by decide +kernel
theorem dX9_appends_77 : decode cX9_appends 77 = .ok (.getfield 34, 3) := by decide +kernel
theorem dX9_appends_80 : decode cX9_appends 80 = .ok (.iload_n 1, 1) := by decide +kernel
theorem dX9_appends_81 : decode cX9_appends 81 = .ok (.iaload, 1) := by decide +kernel
theorem dX9_appends_82 : decode cX9_appends 82 = .ok (.ireturn, 1) := by decide +kernel
theorem dX9_comeOut_0 : decode cX9_comeOut 0 = .ok (.aload_n 0, 1) := by decide +kernel
theorem dX9_comeOut_1 : decode cX9_comeOut 1 = .ok (.iconst 0, 1) := by decide +kernel
theorem dX9_comeOut_2 : decode cX9_comeOut 2 = .ok (.putfield 157, 3) := by decide +kernel
theorem dX9_comeOut_5 : decode cX9_comeOut 5 = .ok (.aload_n 0, 1) := by decide +kernel
theorem dX9_comeOut_6 : decode cX9_comeOut 6 = .ok (.iload_n 1, 1) := by decide +kernel
theorem dX9_comeOut_7 : decode cX9_comeOut 7 = .ok (.invokevirtual 160, 3) := by decide +kernel
theorem dX9_comeOut_10 : decode cX9_comeOut 10 = .ok (.return_, 1) := by decide +kernel
theorem dX9_addsOut_0 : decode cX9_addsOut 0 = .ok (.iconst 0, 1) := by decide +kernel
theorem dX9_addsOut_1 : decode cX9_addsOut 1 = .ok (.istore_n 2, 1) := by decide +kernel
theorem dX9_addsOut_2 : decode cX9_addsOut 2 = .ok (.iload_n 2, 1) := by decide +kernel
theorem dX9_addsOut_3 : decode cX9_addsOut 3 = .ok (.aload_n 0, 1) := by decide +kernel
theorem dX9_addsOut_4 : decode cX9_addsOut 4 = .ok (.getfield 34, 3) := by decide +kernel
theorem dX9_addsOut_7 : decode cX9_addsOut 7 = .ok (.iload_n 1, 1) := by decide +kernel
theorem dX9_addsOut_8 : decode cX9_addsOut 8 = .ok (.iaload, 1) := by decide +kernel
theorem dX9_addsOut_9 : decode cX9_addsOut 9 = .ok (.if_icmp .ge 39, 3) := by decide +kernel
theorem dX9_addsOut_12 : decode cX9_addsOut 12 = .ok (.aload_n 0, 1) := by decide +kernel
theorem dX9_addsOut_13 : decode cX9_addsOut 13 = .ok (.getfield 46, 3) := by decide +kernel
theorem dX9_addsOut_16 : decode cX9_addsOut 16 = .ok (.aload_n 0, 1) := by decide +kernel
theorem dX9_addsOut_17 : decode cX9_addsOut 17 = .ok (.getfield 157, 3) := by decide +kernel
theorem dX9_addsOut_20 : decode cX9_addsOut 20 = .ok (.aload_n 0, 1) := by decide +kernel
theorem dX9_addsOut_21 : decode cX9_addsOut 21 = .ok (.getfield 37, 3) := by decide +kernel
theorem dX9_addsOut_24 : decode cX9_addsOut 24 = .ok (.bipush 16, 2) := by decide +kernel
theorem dX9_addsOut_26 : decode cX9_addsOut 26 = .ok (.iload_n 1, 1) := by decide +kernel
theorem dX9_addsOut_27 : decode cX9_addsOut 27 = .ok (.imul, 1) := by decide +kernel
theorem dX9_addsOut_28 : decode cX9_addsOut 28 = .ok (.iload_n 2, 1) := by decide +kernel
theorem dX9_addsOut_29 : decode cX9_addsOut 29 = .ok (.iadd, 1) := by decide +kernel
theorem dX9_addsOut_30 : decode cX9_addsOut 30 = .ok (.iaload, 1) := by decide +kernel
theorem dX9_addsOut_31 : decode cX9_addsOut 31 = .ok (.iastore, 1) := by decide +kernel
theorem dX9_addsOut_32 : decode cX9_addsOut 32 = .ok (.aload_n 0, 1) := by decide +kernel
theorem dX9_addsOut_33 : decode cX9_addsOut 33 = .ok (.dup, 1) := by decide +kernel
theorem dX9_addsOut_34 : decode cX9_addsOut 34 = .ok (.getfield 157, 3) := by decide +kernel
theorem dX9_addsOut_37 : decode cX9_addsOut 37 = .ok (.iconst 1, 1) := by decide +kernel
theorem dX9_addsOut_38 : decode cX9_addsOut 38 = .ok (.iadd, 1) := by decide +kernel
theorem dX9_addsOut_39 : decode cX9_addsOut 39 = .ok (.putfield 157, 3) := by decide +kernel
theorem dX9_addsOut_42 : decode cX9_addsOut 42 = .ok (.iinc 2 1, 3) := by decide +kernel
theorem dX9_addsOut_45 : decode cX9_addsOut 45 = .ok (.goto (-43), 3) := by decide +kernel
theorem dX9_addsOut_48 : decode cX9_addsOut 48 = .ok (.return_, 1) := by decide +kernel
theorem dX9_asOther_0 : decode cX9_asOther 0 = .ok (.aload_n 0, 1) := by decide +kernel
theorem dX9_asOther_1 : decode cX9_asOther 1 = .ok (.aload_n 0, 1) := by decide +kernel
theorem dX9_asOther_2 : decode cX9_asOther 2 = .ok (.getfield 157, 3) := by decide +kernel
theorem dX9_asOther_5 : decode cX9_asOther 5 = .ok (.putfield 163, 3) := by decide +kernel
theorem dX9_asOther_8 : decode cX9_asOther 8 = .ok (.iconst 0, 1) := by decide +kernel
theorem dX9_asOther_9 : decode cX9_asOther 9 = .ok (.istore_n 1, 1) := by decide +kernel
theorem dX9_asOther_10 : decode cX9_asOther 10 = .ok (.iload_n 1, 1) := by decide +kernel
theorem dX9_asOther_11 : decode cX9_asOther 11 = .ok (.aload_n 0, 1) := by decide +kernel
theorem dX9_asOther_12 : decode cX9_asOther 12 = .ok (.getfield 157, 3) := by decide +kernel
theorem dX9_asOther_15 : decode cX9_asOther 15 = .ok (.if_icmp .ge 21, 3) := by decide +kernel
theorem dX9_asOther_18 : decode cX9_asOther 18 = .ok (.aload_n 0, 1) := by decide +kernel
theorem dX9_asOther_19 : decode cX9_asOther 19 = .ok (.getfield 49, 3) := by decide +kernel
theorem dX9_asOther_22 : decode cX9_asOther 22 = .ok (.iload_n 1, 1) := by decide +kernel
theorem dX9_asOther_23 : decode cX9_asOther 23 = .ok (.aload_n 0, 1) := by decide +kernel
theorem dX9_asOther_24 : decode cX9_asOther 24 = .ok (.getfield 46, 3) := by decide +kernel
theorem dX9_asOther_27 : decode cX9_asOther 27 = .ok (.iload_n 1, 1) := by decide +kernel
theorem dX9_asOther_28 : decode cX9_asOther 28 = .ok (.iaload, 1) := by decide +kernel
theorem dX9_asOther_29 : decode cX9_asOther 29 = .ok (.iastore, 1) := by decide +kernel
theorem dX9_asOther_30 : decode cX9_asOther 30 = .ok (.iinc 1 1, 3) := by decide +kernel
theorem dX9_asOther_33 : decode cX9_asOther 33 = .ok (.goto (-23), 3) := by decide +kernel
theorem dX9_asOther_36 : decode cX9_asOther 36 = .ok (.return_, 1) := by decide +kernel
theorem dX9_comeApart_0 : decode cX9_comeApart 0 = .ok (.aload_n 0, 1) := by decide +kernel
theorem dX9_comeApart_1 : decode cX9_comeApart 1 = .ok (.invokevirtual 166, 3) := by decide +kernel
theorem dX9_comeApart_4 : decode cX9_comeApart 4 = .ok (.aload_n 0, 1) := by decide +kernel
theorem dX9_comeApart_5 : decode cX9_comeApart 5 = .ok (.iconst 0, 1) := by decide +kernel
theorem dX9_comeApart_6 : decode cX9_comeApart 6 = .ok (.putfield 157, 3) := by decide +kernel
theorem dX9_comeApart_9 : decode cX9_comeApart 9 = .ok (.iconst 0, 1) := by decide +kernel
theorem dX9_comeApart_10 : decode cX9_comeApart 10 = .ok (.istore_n 1, 1) := by decide +kernel
theorem dX9_comeApart_11 : decode cX9_comeApart 11 = .ok (.iload_n 1, 1) := by decide +kernel
theorem dX9_comeApart_12 : decode cX9_comeApart 12 = .ok (.aload_n 0, 1) := by decide +kernel
theorem dX9_comeApart_13 : decode cX9_comeApart 13 = .ok (.getfield 163, 3) := by decide +kernel
theorem dX9_comeApart_16 : decode cX9_comeApart 16 = .ok (.if_icmp .ge 63, 3) := by decide +kernel
theorem dX9_comeApart_19 : decode cX9_comeApart 19 = .ok (.aload_n 0, 1) := by decide +kernel
theorem dX9_comeApart_20 : decode cX9_comeApart 20 = .ok (.getfield 49, 3) := by decide +kernel
theorem dX9_comeApart_23 : decode cX9_comeApart 23 = .ok (.iload_n 1, 1) := by decide +kernel
theorem dX9_comeApart_24 : decode cX9_comeApart 24 = .ok (.iaload, 1) := by decide +kernel
theorem dX9_comeApart_25 : decode cX9_comeApart 25 = .ok (.istore_n 2, 1) := by decide +kernel
theorem dX9_comeApart_26 : decode cX9_comeApart 26 = .ok (.iconst 0, 1) := by decide +kernel
theorem dX9_comeApart_27 : decode cX9_comeApart 27 = .ok (.istore_n 3, 1) := by decide +kernel
theorem dX9_comeApart_28 : decode cX9_comeApart 28 = .ok (.iload_n 3, 1) := by decide +kernel
theorem dX9_comeApart_29 : decode cX9_comeApart 29 = .ok (.aload_n 0, 1) := by decide +kernel
theorem dX9_comeApart_30 : decode cX9_comeApart 30 = .ok (.getfield 22, 3) := by decide +kernel
theorem dX9_comeApart_33 : decode cX9_comeApart 33 = .ok (.iload_n 2, 1) := by decide +kernel
theorem dX9_comeApart_34 : decode cX9_comeApart 34 = .ok (.iaload, 1) := by decide +kernel
theorem dX9_comeApart_35 : decode cX9_comeApart 35 = .ok (.if_icmp .ge 38, 3) := by decide +kernel
theorem dX9_comeApart_38 : decode cX9_comeApart 38 = .ok (.aload_n 0, 1) := by decide +kernel
theorem dX9_comeApart_39 : decode cX9_comeApart 39 = .ok (.getfield 46, 3) := by decide +kernel
theorem dX9_comeApart_42 : decode cX9_comeApart 42 = .ok (.aload_n 0, 1) := by decide +kernel
theorem dX9_comeApart_43 : decode cX9_comeApart 43 = .ok (.getfield 157, 3) := by decide +kernel
theorem dX9_comeApart_46 : decode cX9_comeApart 46 = .ok (.aload_n 0, 1) := by decide +kernel
theorem dX9_comeApart_47 : decode cX9_comeApart 47 = .ok (.getfield 25, 3) := by decide +kernel
theorem dX9_comeApart_50 : decode cX9_comeApart 50 = .ok (.iconst 4, 1) := by decide +kernel
theorem dX9_comeApart_51 : decode cX9_comeApart 51 = .ok (.iload_n 2, 1) := by decide +kernel
theorem dX9_comeApart_52 : decode cX9_comeApart 52 = .ok (.imul, 1) := by decide +kernel
theorem dX9_comeApart_53 : decode cX9_comeApart 53 = .ok (.iload_n 3, 1) := by decide +kernel
theorem dX9_comeApart_54 : decode cX9_comeApart 54 = .ok (.iadd, 1) := by decide +kernel
theorem dX9_comeApart_55 : decode cX9_comeApart 55 = .ok (.iaload, 1) := by decide +kernel
theorem dX9_comeApart_56 : decode cX9_comeApart 56 = .ok (.iastore, 1) := by decide +kernel
theorem dX9_comeApart_57 : decode cX9_comeApart 57 = .ok (.aload_n 0, 1) := by decide +kernel
theorem dX9_comeApart_58 : decode cX9_comeApart 58 = .ok (.dup, 1) := by decide +kernel
theorem dX9_comeApart_59 : decode cX9_comeApart 59 = .ok (.getfield 157, 3) := by decide +kernel
theorem dX9_comeApart_62 : decode cX9_comeApart 62 = .ok (.iconst 1, 1) := by decide +kernel
theorem dX9_comeApart_63 : decode cX9_comeApart 63 = .ok (.iadd, 1) := by decide +kernel
theorem dX9_comeApart_64 : decode cX9_comeApart 64 = .ok (.putfield 157, 3) := by decide +kernel
theorem dX9_comeApart_67 : decode cX9_comeApart 67 = .ok (.iinc 3 1, 3) := by decide +kernel
theorem dX9_comeApart_70 : decode cX9_comeApart 70 = .ok (.goto (-42), 3) := by decide +kernel
theorem dX9_comeApart_73 : decode cX9_comeApart 73 = .ok (.iinc 1 1, 3) := by decide +kernel
theorem dX9_comeApart_76 : decode cX9_comeApart 76 = .ok (.goto (-65), 3) := by decide +kernel
theorem dX9_comeApart_79 : decode cX9_comeApart 79 = .ok (.return_, 1) := by decide +kernel
theorem dX9_sorts_0 : decode cX9_sorts 0 = .ok (.iconst 1, 1) := by decide +kernel
theorem dX9_sorts_1 : decode cX9_sorts 1 = .ok (.istore_n 1, 1) := by decide +kernel
theorem dX9_sorts_2 : decode cX9_sorts 2 = .ok (.iload_n 1, 1) := by decide +kernel
theorem dX9_sorts_3 : decode cX9_sorts 3 = .ok (.aload_n 0, 1) := by decide +kernel
theorem dX9_sorts_4 : decode cX9_sorts 4 = .ok (.getfield 157, 3) := by decide +kernel
theorem dX9_sorts_7 : decode cX9_sorts 7 = .ok (.if_icmp .ge 80, 3) := by decide +kernel
theorem dX9_sorts_10 : decode cX9_sorts 10 = .ok (.aload_n 0, 1) := by decide +kernel
theorem dX9_sorts_11 : decode cX9_sorts 11 = .ok (.getfield 46, 3) := by decide +kernel
theorem dX9_sorts_14 : decode cX9_sorts 14 = .ok (.iload_n 1, 1) := by decide +kernel
theorem dX9_sorts_15 : decode cX9_sorts 15 = .ok (.iaload, 1) := by decide +kernel
theorem dX9_sorts_16 : decode cX9_sorts 16 = .ok (.istore_n 2, 1) := by decide +kernel
theorem dX9_sorts_17 : decode cX9_sorts 17 = .ok (.iload_n 1, 1) := by decide +kernel
theorem dX9_sorts_18 : decode cX9_sorts 18 = .ok (.istore_n 3, 1) := by decide +kernel
theorem dX9_sorts_19 : decode cX9_sorts 19 = .ok (.aload_n 0, 1) := by decide +kernel
theorem dX9_sorts_20 : decode cX9_sorts 20 = .ok (.getfield 13, 3) := by decide +kernel
theorem dX9_sorts_23 : decode cX9_sorts 23 = .ok (.iload_n 2, 1) := by decide +kernel
end
section
theorem dX9_sorts_24 : decode cX9_sorts 24 = .ok (.iaload, 1) := by decide +kernel
theorem dX9_sorts_25 : decode cX9_sorts 25 = .ok (.ifCond .le 49, 3) := by decide +kernel
theorem dX9_sorts_28 : decode cX9_sorts 28 = .ok (.iload_n 3, 1) := by decide +kernel
theorem dX9_sorts_29 : decode cX9_sorts 29 = .ok (.ifCond .le 45, 3) := by decide +kernel
theorem dX9_sorts_32 : decode cX9_sorts 32 = .ok (.aload_n 0, 1) := by decide +kernel
theorem dX9_sorts_33 : decode cX9_sorts 33 = .ok (.getfield 13, 3) := by decide +kernel
theorem dX9_sorts_36 : decode cX9_sorts 36 = .ok (.aload_n 0, 1) := by decide +kernel
theorem dX9_sorts_37 : decode cX9_sorts 37 = .ok (.getfield 46, 3) := by decide +kernel
theorem dX9_sorts_40 : decode cX9_sorts 40 = .ok (.iload_n 3, 1) := by decide +kernel
theorem dX9_sorts_41 : decode cX9_sorts 41 = .ok (.iconst 1, 1) := by decide +kernel
theorem dX9_sorts_42 : decode cX9_sorts 42 = .ok (.isub, 1) := by decide +kernel
theorem dX9_sorts_43 : decode cX9_sorts 43 = .ok (.iaload, 1) := by decide +kernel
theorem dX9_sorts_44 : decode cX9_sorts 44 = .ok (.iaload, 1) := by decide +kernel
theorem dX9_sorts_45 : decode cX9_sorts 45 = .ok (.aload_n 0, 1) := by decide +kernel
theorem dX9_sorts_46 : decode cX9_sorts 46 = .ok (.getfield 13, 3) := by decide +kernel
theorem dX9_sorts_49 : decode cX9_sorts 49 = .ok (.iload_n 2, 1) := by decide +kernel
theorem dX9_sorts_50 : decode cX9_sorts 50 = .ok (.iaload, 1) := by decide +kernel
theorem dX9_sorts_51 : decode cX9_sorts 51 = .ok (.if_icmp .le 23, 3) := by decide +kernel
theorem dX9_sorts_54 : decode cX9_sorts 54 = .ok (.aload_n 0, 1) := by decide +kernel
theorem dX9_sorts_55 : decode cX9_sorts 55 = .ok (.getfield 46, 3) := by decide +kernel
theorem dX9_sorts_58 : decode cX9_sorts 58 = .ok (.iload_n 3, 1) := by decide +kernel
theorem dX9_sorts_59 : decode cX9_sorts 59 = .ok (.aload_n 0, 1) := by decide +kernel
theorem dX9_sorts_60 : decode cX9_sorts 60 = .ok (.getfield 46, 3) := by decide +kernel
theorem dX9_sorts_63 : decode cX9_sorts 63 = .ok (.iload_n 3, 1) := by decide +kernel
theorem dX9_sorts_64 : decode cX9_sorts 64 = .ok (.iconst 1, 1) := by decide +kernel
theorem dX9_sorts_65 : decode cX9_sorts 65 = .ok (.isub, 1) := by decide +kernel
theorem dX9_sorts_66 : decode cX9_sorts 66 = .ok (.iaload, 1) := by decide +kernel
theorem dX9_sorts_67 : decode cX9_sorts 67 = .ok (.iastore, 1) := by decide +kernel
theorem dX9_sorts_68 : decode cX9_sorts 68 = .ok (.iinc 3 (-1), 3) := by decide +kernel
theorem dX9_sorts_71 : decode cX9_sorts 71 = .ok (.goto (-52), 3) := by decide +kernel
theorem dX9_sorts_74 : decode cX9_sorts 74 = .ok (.aload_n 0, 1) := by decide +kernel
theorem dX9_sorts_75 : decode cX9_sorts 75 = .ok (.getfield 46, 3) := by decide +kernel
theorem dX9_sorts_78 : decode cX9_sorts 78 = .ok (.iload_n 3, 1) := by decide +kernel
theorem dX9_sorts_79 : decode cX9_sorts 79 = .ok (.iload_n 2, 1) := by decide +kernel
theorem dX9_sorts_80 : decode cX9_sorts 80 = .ok (.iastore, 1) := by decide +kernel
theorem dX9_sorts_81 : decode cX9_sorts 81 = .ok (.iinc 1 1, 3) := by decide +kernel
theorem dX9_sorts_84 : decode cX9_sorts 84 = .ok (.goto (-82), 3) := by decide +kernel
theorem dX9_sorts_87 : decode cX9_sorts 87 = .ok (.return_, 1) := by decide +kernel
theorem dX9_joins_0 : decode cX9_joins 0 = .ok (.aload_n 0, 1) := by decide +kernel
theorem dX9_joins_1 : decode cX9_joins 1 = .ok (.invokevirtual 166, 3) := by decide +kernel
theorem dX9_joins_4 : decode cX9_joins 4 = .ok (.aload_n 0, 1) := by decide +kernel
theorem dX9_joins_5 : decode cX9_joins 5 = .ok (.iconst 0, 1) := by decide +kernel
theorem dX9_joins_6 : decode cX9_joins 6 = .ok (.putfield 157, 3) := by decide +kernel
theorem dX9_joins_9 : decode cX9_joins 9 = .ok (.bipush (-9), 2) := by decide +kernel
theorem dX9_joins_11 : decode cX9_joins 11 = .ok (.istore_n 1, 1) := by decide +kernel
theorem dX9_joins_12 : decode cX9_joins 12 = .ok (.iconst 0, 1) := by decide +kernel
theorem dX9_joins_13 : decode cX9_joins 13 = .ok (.istore_n 2, 1) := by decide +kernel
theorem dX9_joins_14 : decode cX9_joins 14 = .ok (.iload_n 2, 1) := by decide +kernel
theorem dX9_joins_15 : decode cX9_joins 15 = .ok (.aload_n 0, 1) := by decide +kernel
theorem dX9_joins_16 : decode cX9_joins 16 = .ok (.getfield 163, 3) := by decide +kernel
theorem dX9_joins_19 : decode cX9_joins 19 = .ok (.if_icmp .ge 105, 3) := by decide +kernel
theorem dX9_joins_22 : decode cX9_joins 22 = .ok (.aload_n 0, 1) := by decide +kernel
theorem dX9_joins_23 : decode cX9_joins 23 = .ok (.getfield 49, 3) := by decide +kernel
theorem dX9_joins_26 : decode cX9_joins 26 = .ok (.iload_n 2, 1) := by decide +kernel
theorem dX9_joins_27 : decode cX9_joins 27 = .ok (.iaload, 1) := by decide +kernel
theorem dX9_joins_28 : decode cX9_joins 28 = .ok (.istore_n 3, 1) := by decide +kernel
theorem dX9_joins_29 : decode cX9_joins 29 = .ok (.iload_n 1, 1) := by decide +kernel
theorem dX9_joins_30 : decode cX9_joins 30 = .ok (.bipush (-9), 2) := by decide +kernel
theorem dX9_joins_32 : decode cX9_joins 32 = .ok (.if_icmp .eq 12, 3) := by decide +kernel
theorem dX9_joins_35 : decode cX9_joins 35 = .ok (.aload_n 0, 1) := by decide +kernel
theorem dX9_joins_36 : decode cX9_joins 36 = .ok (.iload_n 1, 1) := by decide +kernel
theorem dX9_joins_37 : decode cX9_joins 37 = .ok (.iload_n 3, 1) := by decide +kernel
theorem dX9_joins_38 : decode cX9_joins 38 = .ok (.invokevirtual 169, 3) := by decide +kernel
theorem dX9_joins_41 : decode cX9_joins 41 = .ok (.ifCond .eq 8, 3) := by decide +kernel
theorem dX9_joins_44 : decode cX9_joins 44 = .ok (.bipush (-9), 2) := by decide +kernel
theorem dX9_joins_46 : decode cX9_joins 46 = .ok (.goto 14, 3) := by decide +kernel
theorem dX9_joins_49 : decode cX9_joins 49 = .ok (.aload_n 0, 1) := by decide +kernel
theorem dX9_joins_50 : decode cX9_joins 50 = .ok (.aload_n 0, 1) := by decide +kernel
theorem dX9_joins_51 : decode cX9_joins 51 = .ok (.getfield 46, 3) := by decide +kernel
theorem dX9_joins_54 : decode cX9_joins 54 = .ok (.iload_n 1, 1) := by decide +kernel
theorem dX9_joins_55 : decode cX9_joins 55 = .ok (.iaload, 1) := by decide +kernel
theorem dX9_joins_56 : decode cX9_joins 56 = .ok (.iload_n 3, 1) := by decide +kernel
theorem dX9_joins_57 : decode cX9_joins 57 = .ok (.invokevirtual 78, 3) := by decide +kernel
theorem dX9_joins_60 : decode cX9_joins 60 = .ok (.istore 4, 2) := by decide +kernel
theorem dX9_joins_62 : decode cX9_joins 62 = .ok (.iload 4, 2) := by decide +kernel
theorem dX9_joins_64 : decode cX9_joins 64 = .ok (.bipush (-9), 2) := by decide +kernel
theorem dX9_joins_66 : decode cX9_joins 66 = .ok (.if_icmp .eq 14, 3) := by decide +kernel
theorem dX9_joins_69 : decode cX9_joins 69 = .ok (.aload_n 0, 1) := by decide +kernel
theorem dX9_joins_70 : decode cX9_joins 70 = .ok (.getfield 46, 3) := by decide +kernel
theorem dX9_joins_73 : decode cX9_joins 73 = .ok (.iload_n 1, 1) := by decide +kernel
theorem dX9_joins_74 : decode cX9_joins 74 = .ok (.iload 4, 2) := by decide +kernel
theorem dX9_joins_76 : decode cX9_joins 76 = .ok (.iastore, 1) := by decide +kernel
theorem dX9_joins_77 : decode cX9_joins 77 = .ok (.goto 41, 3) := by decide +kernel
theorem dX9_joins_80 : decode cX9_joins 80 = .ok (.aload_n 0, 1) := by decide +kernel
theorem dX9_joins_81 : decode cX9_joins 81 = .ok (.getfield 13, 3) := by decide +kernel
theorem dX9_joins_84 : decode cX9_joins 84 = .ok (.iload_n 3, 1) := by decide +kernel
theorem dX9_joins_85 : decode cX9_joins 85 = .ok (.iaload, 1) := by decide +kernel
theorem dX9_joins_86 : decode cX9_joins 86 = .ok (.ifCond .ne 10, 3) := by decide +kernel
theorem dX9_joins_89 : decode cX9_joins 89 = .ok (.aload_n 0, 1) := by decide +kernel
theorem dX9_joins_90 : decode cX9_joins 90 = .ok (.getfield 157, 3) := by decide +kernel
theorem dX9_joins_93 : decode cX9_joins 93 = .ok (.goto 4, 3) := by decide +kernel
theorem dX9_joins_96 : decode cX9_joins 96 = .ok (.iload_n 1, 1) := by decide +kernel
theorem dX9_joins_97 : decode cX9_joins 97 = .ok (.istore_n 1, 1) := by decide +kernel
theorem dX9_joins_98 : decode cX9_joins 98 = .ok (.aload_n 0, 1) := by decide +kernel
theorem dX9_joins_99 : decode cX9_joins 99 = .ok (.getfield 46, 3) := by decide +kernel
theorem dX9_joins_102 : decode cX9_joins 102 = .ok (.aload_n 0, 1) := by decide +kernel
theorem dX9_joins_103 : decode cX9_joins 103 = .ok (.getfield 157, 3) := by decide +kernel
theorem dX9_joins_106 : decode cX9_joins 106 = .ok (.iload_n 3, 1) := by decide +kernel
theorem dX9_joins_107 : decode cX9_joins 107 = .ok (.iastore, 1) := by decide +kernel
theorem dX9_joins_108 : decode cX9_joins 108 = .ok (.aload_n 0, 1) := by decide +kernel
theorem dX9_joins_109 : decode cX9_joins 109 = .ok (.dup, 1) := by decide +kernel
theorem dX9_joins_110 : decode cX9_joins 110 = .ok (.getfield 157, 3) := by decide +kernel
theorem dX9_joins_113 : decode cX9_joins 113 = .ok (.iconst 1, 1) := by decide +kernel
theorem dX9_joins_114 : decode cX9_joins 114 = .ok (.iadd, 1) := by decide +kernel
theorem dX9_joins_115 : decode cX9_joins 115 = .ok (.putfield 157, 3) := by decide +kernel
theorem dX9_joins_118 : decode cX9_joins 118 = .ok (.iinc 2 1, 3) := by decide +kernel
theorem dX9_joins_121 : decode cX9_joins 121 = .ok (.goto (-107), 3) := by decide +kernel
theorem dX9_joins_124 : decode cX9_joins 124 = .ok (.return_, 1) := by decide +kernel
theorem dX9_isBlocked_0 : decode cX9_isBlocked 0 = .ok (.iconst 0, 1) := by decide +kernel
theorem dX9_isBlocked_1 : decode cX9_isBlocked 1 = .ok (.istore_n 3, 1) := by decide +kernel
theorem dX9_isBlocked_2 : decode cX9_isBlocked 2 = .ok (.iload_n 1, 1) := by decide +kernel
theorem dX9_isBlocked_3 : decode cX9_isBlocked 3 = .ok (.iconst 1, 1) := by decide +kernel
theorem dX9_isBlocked_4 : decode cX9_isBlocked 4 = .ok (.iadd, 1) := by decide +kernel
theorem dX9_isBlocked_5 : decode cX9_isBlocked 5 = .ok (.istore 4, 2) := by decide +kernel
theorem dX9_isBlocked_7 : decode cX9_isBlocked 7 = .ok (.iload 4, 2) := by decide +kernel
theorem dX9_isBlocked_9 : decode cX9_isBlocked 9 = .ok (.aload_n 0, 1) := by decide +kernel
theorem dX9_isBlocked_10 : decode cX9_isBlocked 10 = .ok (.getfield 157, 3) := by decide +kernel
theorem dX9_isBlocked_13 : decode cX9_isBlocked 13 = .ok (.if_icmp .ge 55, 3) := by decide +kernel
theorem dX9_isBlocked_16 : decode cX9_isBlocked 16 = .ok (.iload_n 3, 1) := by decide +kernel
theorem dX9_isBlocked_17 : decode cX9_isBlocked 17 = .ok (.ifCond .ne 39, 3) := by decide +kernel
theorem dX9_isBlocked_20 : decode cX9_isBlocked 20 = .ok (.aload_n 0, 1) := by decide +kernel
theorem dX9_isBlocked_21 : decode cX9_isBlocked 21 = .ok (.getfield 13, 3) := by decide +kernel
theorem dX9_isBlocked_24 : decode cX9_isBlocked 24 = .ok (.aload_n 0, 1) := by decide +kernel
theorem dX9_isBlocked_25 : decode cX9_isBlocked 25 = .ok (.getfield 46, 3) := by decide +kernel
theorem dX9_isBlocked_28 : decode cX9_isBlocked 28 = .ok (.iload 4, 2) := by decide +kernel
theorem dX9_isBlocked_30 : decode cX9_isBlocked 30 = .ok (.iaload, 1) := by decide +kernel
theorem dX9_isBlocked_31 : decode cX9_isBlocked 31 = .ok (.iaload, 1) := by decide +kernel
theorem dX9_isBlocked_32 : decode cX9_isBlocked 32 = .ok (.ifCond .eq 24, 3) := by decide +kernel
theorem dX9_isBlocked_35 : decode cX9_isBlocked 35 = .ok (.aload_n 0, 1) := by decide +kernel
theorem dX9_isBlocked_36 : decode cX9_isBlocked 36 = .ok (.getfield 13, 3) := by decide +kernel
theorem dX9_isBlocked_39 : decode cX9_isBlocked 39 = .ok (.aload_n 0, 1) := by decide +kernel
theorem dX9_isBlocked_40 : decode cX9_isBlocked 40 = .ok (.getfield 46, 3) := by decide +kernel
theorem dX9_isBlocked_43 : decode cX9_isBlocked 43 = .ok (.iload 4, 2) := by decide +kernel
theorem dX9_isBlocked_45 : decode cX9_isBlocked 45 = .ok (.iaload, 1) := by decide +kernel
theorem dX9_isBlocked_46 : decode cX9_isBlocked 46 = .ok (.iaload, 1) := by decide +kernel
theorem dX9_isBlocked_47 : decode cX9_isBlocked 47 = .ok (.aload_n 0, 1) := by decide +kernel
theorem dX9_isBlocked_48 : decode cX9_isBlocked 48 = .ok (.getfield 13, 3) := by decide +kernel
theorem dX9_isBlocked_51 : decode cX9_isBlocked 51 = .ok (.iload_n 2, 1) := by decide +kernel
theorem dX9_isBlocked_52 : decode cX9_isBlocked 52 = .ok (.iaload, 1) := by decide +kernel
theorem dX9_isBlocked_53 : decode cX9_isBlocked 53 = .ok (.if_icmp .lt 7, 3) := by decide +kernel
theorem dX9_isBlocked_56 : decode cX9_isBlocked 56 = .ok (.iconst 1, 1) := by decide +kernel
theorem dX9_isBlocked_57 : decode cX9_isBlocked 57 = .ok (.goto 4, 3) := by decide +kernel
theorem dX9_isBlocked_60 : decode cX9_isBlocked 60 = .ok (.iconst 0, 1) := by decide +kernel
theorem dX9_isBlocked_61 : decode cX9_isBlocked 61 = .ok (.istore_n 3, 1) := by decide +kernel
theorem dX9_isBlocked_62 : decode cX9_isBlocked 62 = .ok (.iinc 4 1, 3) := by decide +kernel
theorem dX9_isBlocked_65 : decode cX9_isBlocked 65 = .ok (.goto (-58), 3) := by decide +kernel
theorem dX9_isBlocked_68 : decode cX9_isBlocked 68 = .ok (.iload_n 3, 1) := by decide +kernel
theorem dX9_isBlocked_69 : decode cX9_isBlocked 69 = .ok (.ireturn, 1) := by decide +kernel
theorem dX9_keepsBases_0 : decode cX9_keepsBases 0 = .ok (.aload_n 0, 1) := by decide +kernel
theorem dX9_keepsBases_1 : decode cX9_keepsBases 1 = .ok (.invokevirtual 166, 3) := by decide +kernel
theorem dX9_keepsBases_4 : decode cX9_keepsBases 4 = .ok (.aload_n 0, 1) := by decide +kernel
theorem dX9_keepsBases_5 : decode cX9_keepsBases 5 = .ok (.iconst 0, 1) := by decide +kernel
theorem dX9_keepsBases_6 : decode cX9_keepsBases 6 = .ok (.putfield 157, 3) := by decide +kernel
theorem dX9_keepsBases_9 : decode cX9_keepsBases 9 = .ok (.iconst 0, 1) := by decide +kernel
theorem dX9_keepsBases_10 : decode cX9_keepsBases 10 = .ok (.istore_n 1, 1) := by decide +kernel
theorem dX9_keepsBases_11 : decode cX9_keepsBases 11 = .ok (.iload_n 1, 1) := by decide +kernel
theorem dX9_keepsBases_12 : decode cX9_keepsBases 12 = .ok (.aload_n 0, 1) := by decide +kernel
theorem dX9_keepsBases_13 : decode cX9_keepsBases 13 = .ok (.getfield 163, 3) := by decide +kernel
theorem dX9_keepsBases_16 : decode cX9_keepsBases 16 = .ok (.if_icmp .ge 48, 3) := by decide +kernel
theorem dX9_keepsBases_19 : decode cX9_keepsBases 19 = .ok (.aload_n 0, 1) := by decide +kernel
theorem dX9_keepsBases_20 : decode cX9_keepsBases 20 = .ok (.getfield 13, 3) := by decide +kernel
theorem dX9_keepsBases_23 : decode cX9_keepsBases 23 = .ok (.aload_n 0, 1) := by decide +kernel
theorem dX9_keepsBases_24 : decode cX9_keepsBases 24 = .ok (.getfield 49, 3) := by decide +kernel
theorem dX9_keepsBases_27 : decode cX9_keepsBases 27 = .ok (.iload_n 1, 1) := by decide +kernel
theorem dX9_keepsBases_28 : decode cX9_keepsBases 28 = .ok (.iaload, 1) := by decide +kernel
theorem dX9_keepsBases_29 : decode cX9_keepsBases 29 = .ok (.iaload, 1) := by decide +kernel
theorem dX9_keepsBases_30 : decode cX9_keepsBases 30 = .ok (.ifCond .ne 28, 3) := by decide +kernel
theorem dX9_keepsBases_33 : decode cX9_keepsBases 33 = .ok (.aload_n 0, 1) := by decide +kernel
theorem dX9_keepsBases_34 : decode cX9_keepsBases 34 = .ok (.getfield 46, 3) := by decide +kernel
theorem dX9_keepsBases_37 : decode cX9_keepsBases 37 = .ok (.aload_n 0, 1) := by decide +kernel
theorem dX9_keepsBases_38 : decode cX9_keepsBases 38 = .ok (.getfield 157, 3) := by decide +kernel
theorem dX9_keepsBases_41 : decode cX9_keepsBases 41 = .ok (.aload_n 0, 1) := by decide +kernel
theorem dX9_keepsBases_42 : decode cX9_keepsBases 42 = .ok (.getfield 49, 3) := by decide +kernel
theorem dX9_keepsBases_45 : decode cX9_keepsBases 45 = .ok (.iload_n 1, 1) := by decide +kernel
theorem dX9_keepsBases_46 : decode cX9_keepsBases 46 = .ok (.iaload, 1) := by decide +kernel
theorem dX9_keepsBases_47 : decode cX9_keepsBases 47 = .ok (.iastore, 1) := by decide +kernel
theorem dX9_keepsBases_48 : decode cX9_keepsBases 48 = .ok (.aload_n 0, 1) := by decide +kernel
theorem dX9_keepsBases_49 : decode cX9_keepsBases 49 = .ok (.dup, 1) := by decide +kernel
theorem dX9_keepsBases_50 : decode cX9_keepsBases 50 = .ok (.getfield 157, 3) := by decide +kernel
theorem dX9_keepsBases_53 : decode cX9_keepsBases 53 = .ok (.iconst 1, 1) := by decide +kernel
theorem dX9_keepsBases_54 : decode cX9_keepsBases 54 = .ok (.iadd, 1) := by decide +kernel
theorem dX9_keepsBases_55 : decode cX9_keepsBases 55 = .ok (.putfield 157, 3) := by decide +kernel
theorem dX9_keepsBases_58 : decode cX9_keepsBases 58 = .ok (.iinc 1 1, 3) := by decide +kernel
theorem dX9_keepsBases_61 : decode cX9_keepsBases 61 = .ok (.goto (-50), 3) := by decide +kernel
theorem dX9_keepsBases_64 : decode cX9_keepsBases 64 = .ok (.return_, 1) := by decide +kernel
theorem dX9_turns_0 : decode cX9_turns 0 = .ok (.aload_n 0, 1) := by decide +kernel
theorem dX9_turns_1 : decode cX9_turns 1 = .ok (.invokevirtual 166, 3) := by decide +kernel
theorem dX9_turns_4 : decode cX9_turns 4 = .ok (.iconst 0, 1) := by decide +kernel
theorem dX9_turns_5 : decode cX9_turns 5 = .ok (.istore_n 1, 1) := by decide +kernel
theorem dX9_turns_6 : decode cX9_turns 6 = .ok (.iload_n 1, 1) := by decide +kernel
theorem dX9_turns_7 : decode cX9_turns 7 = .ok (.aload_n 0, 1) := by decide +kernel
theorem dX9_turns_8 : decode cX9_turns 8 = .ok (.getfield 157, 3) := by decide +kernel
theorem dX9_turns_11 : decode cX9_turns 11 = .ok (.if_icmp .ge 28, 3) := by decide +kernel
theorem dX9_turns_14 : decode cX9_turns 14 = .ok (.aload_n 0, 1) := by decide +kernel
theorem dX9_turns_15 : decode cX9_turns 15 = .ok (.getfield 46, 3) := by decide +kernel
theorem dX9_turns_18 : decode cX9_turns 18 = .ok (.iload_n 1, 1) := by decide +kernel
theorem dX9_turns_19 : decode cX9_turns 19 = .ok (.aload_n 0, 1) := by decide +kernel
theorem dX9_turns_20 : decode cX9_turns 20 = .ok (.getfield 49, 3) := by decide +kernel
theorem dX9_turns_23 : decode cX9_turns 23 = .ok (.aload_n 0, 1) := by decide +kernel
theorem dX9_turns_24 : decode cX9_turns 24 = .ok (.getfield 157, 3) := by decide +kernel
theorem dX9_turns_27 : decode cX9_turns 27 = .ok (.iconst 1, 1) := by decide +kernel
theorem dX9_turns_28 : decode cX9_turns 28 = .ok (.isub, 1) := by decide +kernel
theorem dX9_turns_29 : decode cX9_turns 29 = .ok (.iload_n 1, 1) := by decide +kernel
theorem dX9_turns_30 : decode cX9_turns 30 = .ok (.isub, 1) := by decide +kernel
theorem dX9_turns_31 : decode cX9_turns 31 = .ok (.iaload, 1) := by decide +kernel
theorem dX9_turns_32 : decode cX9_turns 32 = .ok (.iastore, 1) := by decide +kernel
theorem dX9_turns_33 : decode cX9_turns 33 = .ok (.iinc 1 1, 3) := by decide +kernel
theorem dX9_turns_36 : decode cX9_turns 36 = .ok (.goto (-30), 3) := by decide +kernel
theorem dX9_turns_39 : decode cX9_turns 39 = .ok (.return_, 1) := by decide +kernel
theorem dX9_keepsFirst_0 : decode cX9_keepsFirst 0 = .ok (.iconst 0, 1) := by decide +kernel
theorem dX9_keepsFirst_1 : decode cX9_keepsFirst 1 = .ok (.istore_n 1, 1) := by decide +kernel
theorem dX9_keepsFirst_2 : decode cX9_keepsFirst 2 = .ok (.aload_n 0, 1) := by decide +kernel
theorem dX9_keepsFirst_3 : decode cX9_keepsFirst 3 = .ok (.getfield 157, 3) := by decide +kernel
theorem dX9_keepsFirst_6 : decode cX9_keepsFirst 6 = .ok (.istore_n 2, 1) := by decide +kernel
theorem dX9_keepsFirst_7 : decode cX9_keepsFirst 7 = .ok (.aload_n 0, 1) := by decide +kernel
theorem dX9_keepsFirst_8 : decode cX9_keepsFirst 8 = .ok (.getfield 157, 3) := by decide +kernel
theorem dX9_keepsFirst_11 : decode cX9_keepsFirst 11 = .ok (.iconst 1, 1) := by decide +kernel
theorem dX9_keepsFirst_12 : decode cX9_keepsFirst 12 = .ok (.isub, 1) := by decide +kernel
theorem dX9_keepsFirst_13 : decode cX9_keepsFirst 13 = .ok (.istore_n 3, 1) := by decide +kernel
theorem dX9_keepsFirst_14 : decode cX9_keepsFirst 14 = .ok (.iload_n 3, 1) := by decide +kernel
theorem dX9_keepsFirst_15 : decode cX9_keepsFirst 15 = .ok (.ifCond .lt 60, 3) := by decide +kernel
theorem dX9_keepsFirst_18 : decode cX9_keepsFirst 18 = .ok (.iconst 0, 1) := by decide +kernel
theorem dX9_keepsFirst_19 : decode cX9_keepsFirst 19 = .ok (.istore_n 1, 1) := by decide +kernel
theorem dX9_keepsFirst_20 : decode cX9_keepsFirst 20 = .ok (.iconst 0, 1) := by decide +kernel
theorem dX9_keepsFirst_21 : decode cX9_keepsFirst 21 = .ok (.istore 4, 2) := by decide +kernel
theorem dX9_keepsFirst_23 : decode cX9_keepsFirst 23 = .ok (.iload 4, 2) := by decide +kernel
theorem dX9_keepsFirst_25 : decode cX9_keepsFirst 25 = .ok (.iload_n 3, 1) := by decide +kernel
theorem dX9_keepsFirst_26 : decode cX9_keepsFirst 26 = .ok (.if_icmp .gt 32, 3) := by decide +kernel
theorem dX9_keepsFirst_29 : decode cX9_keepsFirst 29 = .ok (.iload_n 1, 1) := by decide +kernel
theorem dX9_keepsFirst_30 : decode cX9_keepsFirst 30 = .ok (.aload_n 0, 1) := by decide +kernel
theorem dX9_keepsFirst_31 : decode cX9_keepsFirst 31 = .ok (.getfield 13, 3) := by decide +kernel
theorem dX9_keepsFirst_34 : decode cX9_keepsFirst 34 = .ok (.aload_n 0, 1) := by decide +kernel
theorem dX9_keepsFirst_35 : decode cX9_keepsFirst 35 = .ok (.getfield 46, 3) := by decide +kernel
theorem dX9_keepsFirst_38 : decode cX9_keepsFirst 38 = .ok (.iload 4, 2) := by decide +kernel
theorem dX9_keepsFirst_40 : decode cX9_keepsFirst 40 = .ok (.iaload, 1) := by decide +kernel
theorem dX9_keepsFirst_41 : decode cX9_keepsFirst 41 = .ok (.iaload, 1) := by decide +kernel
theorem dX9_keepsFirst_42 : decode cX9_keepsFirst 42 = .ok (.ifCond .ne 7, 3) := by decide +kernel
theorem dX9_keepsFirst_45 : decode cX9_keepsFirst 45 = .ok (.iconst 1, 1) := by decide +kernel
theorem dX9_keepsFirst_46 : decode cX9_keepsFirst 46 = .ok (.goto 4, 3) := by decide +kernel
theorem dX9_keepsFirst_49 : decode cX9_keepsFirst 49 = .ok (.iconst 0, 1) := by decide +kernel
theorem dX9_keepsFirst_50 : decode cX9_keepsFirst 50 = .ok (.iadd, 1) := by decide +kernel
theorem dX9_keepsFirst_51 : decode cX9_keepsFirst 51 = .ok (.istore_n 1, 1) := by decide +kernel
theorem dX9_keepsFirst_52 : decode cX9_keepsFirst 52 = .ok (.iinc 4 1, 3) := by decide +kernel
theorem dX9_keepsFirst_55 : decode cX9_keepsFirst 55 = .ok (.goto (-32), 3) := by decide +kernel
theorem dX9_keepsFirst_58 : decode cX9_keepsFirst 58 = .ok (.iload_n 1, 1) := by decide +kernel
theorem dX9_keepsFirst_59 : decode cX9_keepsFirst 59 = .ok (.iconst 1, 1) := by decide +kernel
theorem dX9_keepsFirst_60 : decode cX9_keepsFirst 60 = .ok (.if_icmp .le 7, 3) := by decide +kernel
theorem dX9_keepsFirst_63 : decode cX9_keepsFirst 63 = .ok (.iload_n 3, 1) := by decide +kernel
theorem dX9_keepsFirst_64 : decode cX9_keepsFirst 64 = .ok (.goto 4, 3) := by decide +kernel
theorem dX9_keepsFirst_67 : decode cX9_keepsFirst 67 = .ok (.iload_n 2, 1) := by decide +kernel
theorem dX9_keepsFirst_68 : decode cX9_keepsFirst 68 = .ok (.istore_n 2, 1) := by decide +kernel
theorem dX9_keepsFirst_69 : decode cX9_keepsFirst 69 = .ok (.iinc 3 (-1), 3) := by decide +kernel
theorem dX9_keepsFirst_72 : decode cX9_keepsFirst 72 = .ok (.goto (-58), 3) := by decide +kernel
theorem dX9_keepsFirst_75 : decode cX9_keepsFirst 75 = .ok (.aload_n 0, 1) := by decide +kernel
theorem dX9_keepsFirst_76 : decode cX9_keepsFirst 76 = .ok (.iload_n 2, 1) := by decide +kernel
theorem dX9_keepsFirst_77 : decode cX9_keepsFirst 77 = .ok (.putfield 157, 3) := by decide +kernel
theorem dX9_keepsFirst_80 : decode cX9_keepsFirst 80 = .ok (.return_, 1) := by decide +kernel
theorem dX9_rules_0 : decode cX9_rules 0 = .ok (.iload_n 1, 1) := by decide +kernel
theorem dX9_rules_1 : decode cX9_rules 1 = .ok (.ifCond .eq 13, 3) := by decide +kernel
theorem dX9_rules_4 : decode cX9_rules 4 = .ok (.iload_n 1, 1) := by decide +kernel
theorem dX9_rules_5 : decode cX9_rules 5 = .ok (.iconst 1, 1) := by decide +kernel
theorem dX9_rules_6 : decode cX9_rules 6 = .ok (.if_icmp .eq 8, 3) := by decide +kernel
theorem dX9_rules_9 : decode cX9_rules 9 = .ok (.iload_n 1, 1) := by decide +kernel
theorem dX9_rules_10 : decode cX9_rules 10 = .ok (.iconst 3, 1) := by decide +kernel
theorem dX9_rules_11 : decode cX9_rules 11 = .ok (.if_icmp .ne 11, 3) := by decide +kernel
theorem dX9_rules_14 : decode cX9_rules 14 = .ok (.aload_n 0, 1) := by decide +kernel
theorem dX9_rules_15 : decode cX9_rules 15 = .ok (.invokevirtual 172, 3) := by decide +kernel
theorem dX9_rules_18 : decode cX9_rules 18 = .ok (.aload_n 0, 1) := by decide +kernel
theorem dX9_rules_19 : decode cX9_rules 19 = .ok (.invokevirtual 175, 3) := by decide +kernel
theorem dX9_rules_22 : decode cX9_rules 22 = .ok (.iload_n 1, 1) := by decide +kernel
theorem dX9_rules_23 : decode cX9_rules 23 = .ok (.tableswitch 68 1 5 #[33, 40, 47, 54, 61], 33) := by decide +kernel
theorem dX9_rules_56 : decode cX9_rules 56 = .ok (.aload_n 0, 1) := by decide +kernel
theorem dX9_rules_57 : decode cX9_rules 57 = .ok (.invokevirtual 178, 3) := by decide +kernel
theorem dX9_rules_60 : decode cX9_rules 60 = .ok (.goto 31, 3) := by decide +kernel
theorem dX9_rules_63 : decode cX9_rules 63 = .ok (.aload_n 0, 1) := by decide +kernel
theorem dX9_rules_64 : decode cX9_rules 64 = .ok (.invokevirtual 175, 3) := by decide +kernel
theorem dX9_rules_67 : decode cX9_rules 67 = .ok (.goto 24, 3) := by decide +kernel
theorem dX9_rules_70 : decode cX9_rules 70 = .ok (.aload_n 0, 1) := by decide +kernel
theorem dX9_rules_71 : decode cX9_rules 71 = .ok (.invokevirtual 181, 3) := by decide +kernel
theorem dX9_rules_74 : decode cX9_rules 74 = .ok (.goto 17, 3) := by decide +kernel
theorem dX9_rules_77 : decode cX9_rules 77 = .ok (.aload_n 0, 1) := by decide +kernel
theorem dX9_rules_78 : decode cX9_rules 78 = .ok (.invokevirtual 184, 3) := by decide +kernel
theorem dX9_rules_81 : decode cX9_rules 81 = .ok (.goto 10, 3) := by decide +kernel
theorem dX9_rules_84 : decode cX9_rules 84 = .ok (.aload_n 0, 1) := by decide +kernel
theorem dX9_rules_85 : decode cX9_rules 85 = .ok (.invokevirtual 187, 3) := by decide +kernel
theorem dX9_rules_88 : decode cX9_rules 88 = .ok (.goto 3, 3) := by decide +kernel
theorem dX9_rules_91 : decode cX9_rules 91 = .ok (.return_, 1) := by decide +kernel
theorem dX9_told_0 : decode cX9_told 0 = .ok (.iload_n 1, 1) := by decide +kernel
theorem dX9_told_1 : decode cX9_told 1 = .ok (.iconst (-1), 1) := by decide +kernel
theorem dX9_told_2 : decode cX9_told 2 = .ok (.aload_n 0, 1) := by decide +kernel
theorem dX9_told_3 : decode cX9_told 3 = .ok (.getfield 157, 3) := by decide +kernel
theorem dX9_told_6 : decode cX9_told 6 = .ok (.iconst 1, 1) := by decide +kernel
theorem dX9_told_7 : decode cX9_told 7 = .ok (.isub, 1) := by decide +kernel
theorem dX9_told_8 : decode cX9_told 8 = .ok (.invokestatic 66, 3) := by decide +kernel
theorem dX9_told_11 : decode cX9_told 11 = .ok (.ifCond .ne 5, 3) := by decide +kernel
theorem dX9_told_14 : decode cX9_told 14 = .ok (.iconst (-1), 1) := by decide +kernel
theorem dX9_told_15 : decode cX9_told 15 = .ok (.ireturn, 1) := by decide +kernel
theorem dX9_told_16 : decode cX9_told 16 = .ok (.iload_n 1, 1) := by decide +kernel
theorem dX9_told_17 : decode cX9_told 17 = .ok (.iconst (-1), 1) := by decide +kernel
theorem dX9_told_18 : decode cX9_told 18 = .ok (.if_icmp .ne 10, 3) := by decide +kernel
theorem dX9_told_21 : decode cX9_told 21 = .ok (.aload_n 0, 1) := by decide +kernel
theorem dX9_told_22 : decode cX9_told 22 = .ok (.getfield 157, 3) := by decide +kernel
theorem dX9_told_25 : decode cX9_told 25 = .ok (.goto 9, 3) := by decide +kernel
theorem dX9_told_28 : decode cX9_told 28 = .ok (.aload_n 0, 1) := by decide +kernel
theorem dX9_told_29 : decode cX9_told 29 = .ok (.getfield 46, 3) := by decide +kernel
theorem dX9_told_32 : decode cX9_told 32 = .ok (.iload_n 1, 1) := by decide +kernel
theorem dX9_told_33 : decode cX9_told 33 = .ok (.iaload, 1) := by decide +kernel
theorem dX9_told_34 : decode cX9_told 34 = .ok (.ireturn, 1) := by decide +kernel
theorem dX9_forms_0 : decode cX9_forms 0 = .ok (.iload_n 1, 1) := by decide +kernel
theorem dX9_forms_1 : decode cX9_forms 1 = .ok (.invokestatic 147, 3) := by decide +kernel
theorem dX9_forms_4 : decode cX9_forms 4 = .ok (.ifCond .eq 10, 3) := by decide +kernel
theorem dX9_forms_7 : decode cX9_forms 7 = .ok (.iload_n 2, 1) := by decide +kernel
theorem dX9_forms_8 : decode cX9_forms 8 = .ok (.invokestatic 190, 3) := by decide +kernel
theorem dX9_forms_11 : decode cX9_forms 11 = .ok (.ifCond .ne 5, 3) := by decide +kernel
theorem dX9_forms_14 : decode cX9_forms 14 = .ok (.iconst (-1), 1) := by decide +kernel
theorem dX9_forms_15 : decode cX9_forms 15 = .ok (.ireturn, 1) := by decide +kernel
theorem dX9_forms_16 : decode cX9_forms 16 = .ok (.aload_n 0, 1) := by decide +kernel
theorem dX9_forms_17 : decode cX9_forms 17 = .ok (.iload_n 1, 1) := by decide +kernel
theorem dX9_forms_18 : decode cX9_forms 18 = .ok (.invokevirtual 193, 3) := by decide +kernel
theorem dX9_forms_21 : decode cX9_forms 21 = .ok (.aload_n 0, 1) := by decide +kernel
theorem dX9_forms_22 : decode cX9_forms 22 = .ok (.iload_n 2, 1) := by decide +kernel
theorem dX9_forms_23 : decode cX9_forms 23 = .ok (.invokevirtual 196, 3) := by decide +kernel
theorem dX9_forms_26 : decode cX9_forms 26 = .ok (.aload_n 0, 1) := by decide +kernel
theorem dX9_forms_27 : decode cX9_forms 27 = .ok (.getfield 157, 3) := by decide +kernel
theorem dX9_forms_30 : decode cX9_forms 30 = .ok (.bipush 16, 2) := by decide +kernel
theorem dX9_forms_32 : decode cX9_forms 32 = .ok (.if_icmp .le 6, 3) := by decide +kernel
theorem dX9_forms_35 : decode cX9_forms 35 = .ok (.bipush (-3), 2) := by decide +kernel
theorem dX9_forms_37 : decode cX9_forms 37 = .ok (.ireturn, 1) := by decide +kernel
theorem dX9_forms_38 : decode cX9_forms 38 = .ok (.aload_n 0, 1) := by decide +kernel
theorem dX9_forms_39 : decode cX9_forms 39 = .ok (.iload_n 1, 1) := by decide +kernel
theorem dX9_forms_40 : decode cX9_forms 40 = .ok (.invokevirtual 150, 3) := by decide +kernel
theorem dX9_forms_43 : decode cX9_forms 43 = .ok (.aload_n 0, 1) := by decide +kernel
theorem dX9_forms_44 : decode cX9_forms 44 = .ok (.getfield 34, 3) := by decide +kernel
theorem dX9_forms_47 : decode cX9_forms 47 = .ok (.iload_n 1, 1) := by decide +kernel
theorem dX9_forms_48 : decode cX9_forms 48 = .ok (.iconst 0, 1) := by decide +kernel
theorem dX9_forms_49 : decode cX9_forms 49 = .ok (.iastore, 1) := by decide +kernel
theorem dX9_forms_50 : decode cX9_forms 50 = .ok (.iconst 0, 1) := by decide +kernel
theorem dX9_forms_51 : decode cX9_forms 51 = .ok (.istore_n 3, 1) := by decide +kernel
theorem dX9_forms_52 : decode cX9_forms 52 = .ok (.iload_n 3, 1) := by decide +kernel
theorem dX9_forms_53 : decode cX9_forms 53 = .ok (.aload_n 0, 1) := by decide +kernel
theorem dX9_forms_54 : decode cX9_forms 54 = .ok (.getfield 157, 3) := by decide +kernel
theorem dX9_forms_57 : decode cX9_forms 57 = .ok (.if_icmp .ge 20, 3) := by decide +kernel
theorem dX9_forms_60 : decode cX9_forms 60 = .ok (.aload_n 0, 1) := by decide +kernel
theorem dX9_forms_61 : decode cX9_forms 61 = .ok (.iload_n 1, 1) := by decide +kernel
theorem dX9_forms_62 : decode cX9_forms 62 = .ok (.aload_n 0, 1) := by decide +kernel
theorem dX9_forms_63 : decode cX9_forms 63 = .ok (.getfield 46, 3) := by decide +kernel
theorem dX9_forms_66 : decode cX9_forms 66 = .ok (.iload_n 3, 1) := by decide +kernel
theorem dX9_forms_67 : decode cX9_forms 67 = .ok (.iaload, 1) := by decide +kernel
theorem dX9_forms_68 : decode cX9_forms 68 = .ok (.invokevirtual 154, 3) := by decide +kernel
theorem dX9_forms_71 : decode cX9_forms 71 = .ok (.iinc 3 1, 3) := by decide +kernel
theorem dX9_forms_74 : decode cX9_forms 74 = .ok (.goto (-22), 3) := by decide +kernel
theorem dX9_forms_77 : decode cX9_forms 77 = .ok (.aload_n 0, 1) := by decide +kernel
theorem dX9_forms_78 : decode cX9_forms 78 = .ok (.getfield 157, 3) := by decide +kernel
theorem dX9_forms_81 : decode cX9_forms 81 = .ok (.ireturn, 1) := by decide +kernel
theorem dX9_undo_0 : decode cX9_undo 0 = .ok (.aload_n 0, 1) := by decide +kernel
theorem dX9_undo_1 : decode cX9_undo 1 = .ok (.getfield 144, 3) := by decide +kernel
theorem dX9_undo_4 : decode cX9_undo 4 = .ok (.ifCond .ne 6, 3) := by decide +kernel
theorem dX9_undo_7 : decode cX9_undo 7 = .ok (.bipush (-2), 2) := by decide +kernel
theorem dX9_undo_9 : decode cX9_undo 9 = .ok (.ireturn, 1) := by decide +kernel
theorem dX9_undo_10 : decode cX9_undo 10 = .ok (.aload_n 0, 1) := by decide +kernel
theorem dX9_undo_11 : decode cX9_undo 11 = .ok (.dup, 1) := by decide +kernel
theorem dX9_undo_12 : decode cX9_undo 12 = .ok (.getfield 144, 3) := by decide +kernel
theorem dX9_undo_15 : decode cX9_undo 15 = .ok (.iconst 1, 1) := by decide +kernel
theorem dX9_undo_16 : decode cX9_undo 16 = .ok (.isub, 1) := by decide +kernel
theorem dX9_undo_17 : decode cX9_undo 17 = .ok (.putfield 144, 3) := by decide +kernel
theorem dX9_undo_20 : decode cX9_undo 20 = .ok (.bipush 18, 2) := by decide +kernel
theorem dX9_undo_22 : decode cX9_undo 22 = .ok (.aload_n 0, 1) := by decide +kernel
theorem dX9_undo_23 : decode cX9_undo 23 = .ok (.getfield 144, 3) := by decide +kernel
theorem dX9_undo_26 : decode cX9_undo 26 = .ok (.imul, 1) := by decide +kernel
theorem dX9_undo_27 : decode cX9_undo 27 = .ok (.istore_n 1, 1) := by decide +kernel
theorem dX9_undo_28 : decode cX9_undo 28 = .ok (.aload_n 0, 1) := by decide +kernel
theorem dX9_undo_29 : decode cX9_undo 29 = .ok (.getfield 43, 3) := by decide +kernel
theorem dX9_undo_32 : decode cX9_undo 32 = .ok (.iload_n 1, 1) := by decide +kernel
theorem dX9_undo_33 : decode cX9_undo 33 = .ok (.iaload, 1) := by decide +kernel
theorem dX9_undo_34 : decode cX9_undo 34 = .ok (.istore_n 2, 1) := by decide +kernel
theorem dX9_undo_35 : decode cX9_undo 35 = .ok (.aload_n 0, 1) := by decide +kernel
theorem dX9_undo_36 : decode cX9_undo 36 = .ok (.getfield 34, 3) := by decide +kernel
theorem dX9_undo_39 : decode cX9_undo 39 = .ok (.iload_n 2, 1) := by decide +kernel
theorem dX9_undo_40 : decode cX9_undo 40 = .ok (.aload_n 0, 1) := by decide +kernel
theorem dX9_undo_41 : decode cX9_undo 41 = .ok (.getfield 43, 3) := by decide +kernel
theorem dX9_undo_44 : decode cX9_undo 44 = .ok (.iload_n 1, 1) := by decide +kernel
theorem dX9_undo_45 : decode cX9_undo 45 = .ok (.iconst 1, 1) := by decide +kernel
theorem dX9_undo_46 : decode cX9_undo 46 = .ok (.iadd, 1) := by decide +kernel
theorem dX9_undo_47 : decode cX9_undo 47 = .ok (.iaload, 1) := by decide +kernel
theorem dX9_undo_48 : decode cX9_undo 48 = .ok (.iastore, 1) := by decide +kernel
theorem dX9_undo_49 : decode cX9_undo 49 = .ok (.iconst 0, 1) := by decide +kernel
theorem dX9_undo_50 : decode cX9_undo 50 = .ok (.istore_n 3, 1) := by decide +kernel
theorem dX9_undo_51 : decode cX9_undo 51 = .ok (.iload_n 3, 1) := by decide +kernel
theorem dX9_undo_52 : decode cX9_undo 52 = .ok (.bipush 16, 2) := by decide +kernel
theorem dX9_undo_54 : decode cX9_undo 54 = .ok (.if_icmp .ge 30, 3) := by decide +kernel
theorem dX9_undo_57 : decode cX9_undo 57 = .ok (.aload_n 0, 1) := by decide +kernel
theorem dX9_undo_58 : decode cX9_undo 58 = .ok (.getfield 37, 3) := by decide +kernel
theorem dX9_undo_61 : decode cX9_undo 61 = .ok (.bipush 16, 2) := by decide +kernel
theorem dX9_undo_63 : decode cX9_undo 63 = .ok (.iload_n 2, 1) := by decide +kernel
theorem dX9_undo_64 : decode cX9_undo 64 = .ok (.imul, 1) := by decide +kernel
theorem dX9_undo_65 : decode cX9_undo 65 = .ok (.iload_n 3, 1) := by decide +kernel
theorem dX9_undo_66 : decode cX9_undo 66 = .ok (.iadd, 1) := by decide +kernel
theorem dX9_undo_67 : decode cX9_undo 67 = .ok (.aload_n 0, 1) := by decide +kernel
theorem dX9_undo_68 : decode cX9_undo 68 = .ok (.getfield 43, 3) := by decide +kernel
theorem dX9_undo_71 : decode cX9_undo 71 = .ok (.iload_n 1, 1) := by decide +kernel
theorem dX9_undo_72 : decode cX9_undo 72 = .ok (.iconst 2, 1) := by decide +kernel
theorem dX9_undo_73 : decode cX9_undo 73 = .ok (.iadd, 1) := by decide +kernel
theorem dX9_undo_74 : decode cX9_undo 74 = .ok (.iload_n 3, 1) := by decide +kernel
theorem dX9_undo_75 : decode cX9_undo 75 = .ok (.iadd, 1) := by decide +kernel
theorem dX9_undo_76 : decode cX9_undo 76 = .ok (.iaload, 1) := by decide +kernel
theorem dX9_undo_77 : decode cX9_undo 77 = .ok (.iastore, 1) := by decide +kernel
theorem dX9_undo_78 : decode cX9_undo 78 = .ok (.iinc 3 1, 3) := by decide +kernel
theorem dX9_undo_81 : decode cX9_undo 81 = .ok (.goto (-30), 3) := by decide +kernel
theorem dX9_undo_84 : decode cX9_undo 84 = .ok (.aload_n 0, 1) := by decide +kernel
theorem dX9_undo_85 : decode cX9_undo 85 = .ok (.getfield 144, 3) := by decide +kernel
theorem dX9_undo_88 : decode cX9_undo 88 = .ok (.ireturn, 1) := by decide +kernel
theorem dX9_at_0 : decode cX9_at 0 = .ok (.iload_n 1, 1) := by decide +kernel
theorem dX9_at_1 : decode cX9_at 1 = .ok (.invokestatic 147, 3) := by decide +kernel
theorem dX9_at_4 : decode cX9_at 4 = .ok (.ifCond .ne 5, 3) := by decide +kernel
theorem dX9_at_7 : decode cX9_at 7 = .ok (.iconst (-1), 1) := by decide +kernel
theorem dX9_at_8 : decode cX9_at 8 = .ok (.ireturn, 1) := by decide +kernel
theorem dX9_at_9 : decode cX9_at 9 = .ok (.aload_n 0, 1) := by decide +kernel
theorem dX9_at_10 : decode cX9_at 10 = .ok (.iload_n 1, 1) := by decide +kernel
theorem dX9_at_11 : decode cX9_at 11 = .ok (.invokevirtual 193, 3) := by decide +kernel
theorem dX9_at_14 : decode cX9_at 14 = .ok (.aload_n 0, 1) := by decide +kernel
theorem dX9_at_15 : decode cX9_at 15 = .ok (.iload_n 2, 1) := by decide +kernel
theorem dX9_at_16 : decode cX9_at 16 = .ok (.invokevirtual 199, 3) := by decide +kernel
theorem dX9_at_19 : decode cX9_at 19 = .ok (.ireturn, 1) := by decide +kernel
theorem dX9_ruled_0 : decode cX9_ruled 0 = .ok (.iload_n 1, 1) := by decide +kernel
theorem dX9_ruled_1 : decode cX9_ruled 1 = .ok (.invokestatic 147, 3) := by decide +kernel
theorem dX9_ruled_4 : decode cX9_ruled 4 = .ok (.ifCond .eq 10, 3) := by decide +kernel
theorem dX9_ruled_7 : decode cX9_ruled 7 = .ok (.iload_n 2, 1) := by decide +kernel
theorem dX9_ruled_8 : decode cX9_ruled 8 = .ok (.invokestatic 190, 3) := by decide +kernel
theorem dX9_ruled_11 : decode cX9_ruled 11 = .ok (.ifCond .ne 5, 3) := by decide +kernel
theorem dX9_ruled_14 : decode cX9_ruled 14 = .ok (.iconst (-1), 1) := by decide +kernel
theorem dX9_ruled_15 : decode cX9_ruled 15 = .ok (.ireturn, 1) := by decide +kernel
theorem dX9_ruled_16 : decode cX9_ruled 16 = .ok (.aload_n 0, 1) := by decide +kernel
theorem dX9_ruled_17 : decode cX9_ruled 17 = .ok (.iload_n 1, 1) := by decide +kernel
theorem dX9_ruled_18 : decode cX9_ruled 18 = .ok (.invokevirtual 193, 3) := by decide +kernel
theorem dX9_ruled_21 : decode cX9_ruled 21 = .ok (.aload_n 0, 1) := by decide +kernel
theorem dX9_ruled_22 : decode cX9_ruled 22 = .ok (.iload_n 2, 1) := by decide +kernel
theorem dX9_ruled_23 : decode cX9_ruled 23 = .ok (.invokevirtual 196, 3) := by decide +kernel
theorem dX9_ruled_26 : decode cX9_ruled 26 = .ok (.aload_n 0, 1) := by decide +kernel
theorem dX9_ruled_27 : decode cX9_ruled 27 = .ok (.iload_n 3, 1) := by decide +kernel
theorem dX9_ruled_28 : decode cX9_ruled 28 = .ok (.invokevirtual 199, 3) := by decide +kernel
theorem dX9_ruled_31 : decode cX9_ruled 31 = .ok (.ireturn, 1) := by decide +kernel
theorem dX9_keeps_0 : decode cX9_keeps 0 = .ok (.aload_n 0, 1) := by decide +kernel
theorem dX9_keeps_1 : decode cX9_keeps 1 = .ok (.aload_n 0, 1) := by decide +kernel
theorem dX9_keeps_2 : decode cX9_keeps 2 = .ok (.getfield 157, 3) := by decide +kernel
theorem dX9_keeps_5 : decode cX9_keeps 5 = .ok (.putfield 202, 3) := by decide +kernel
theorem dX9_keeps_8 : decode cX9_keeps 8 = .ok (.iconst 0, 1) := by decide +kernel
theorem dX9_keeps_9 : decode cX9_keeps 9 = .ok (.istore_n 1, 1) := by decide +kernel
theorem dX9_keeps_10 : decode cX9_keeps 10 = .ok (.iload_n 1, 1) := by decide +kernel
theorem dX9_keeps_11 : decode cX9_keeps 11 = .ok (.aload_n 0, 1) := by decide +kernel
theorem dX9_keeps_12 : decode cX9_keeps 12 = .ok (.getfield 157, 3) := by decide +kernel
theorem dX9_keeps_15 : decode cX9_keeps 15 = .ok (.if_icmp .ge 21, 3) := by decide +kernel
theorem dX9_keeps_18 : decode cX9_keeps 18 = .ok (.aload_n 0, 1) := by decide +kernel
theorem dX9_keeps_19 : decode cX9_keeps 19 = .ok (.getfield 52, 3) := by decide +kernel
theorem dX9_keeps_22 : decode cX9_keeps 22 = .ok (.iload_n 1, 1) := by decide +kernel
theorem dX9_keeps_23 : decode cX9_keeps 23 = .ok (.aload_n 0, 1) := by decide +kernel
theorem dX9_keeps_24 : decode cX9_keeps 24 = .ok (.getfield 46, 3) := by decide +kernel
theorem dX9_keeps_27 : decode cX9_keeps 27 = .ok (.iload_n 1, 1) := by decide +kernel
theorem dX9_keeps_28 : decode cX9_keeps 28 = .ok (.iaload, 1) := by decide +kernel
theorem dX9_keeps_29 : decode cX9_keeps 29 = .ok (.iastore, 1) := by decide +kernel
theorem dX9_keeps_30 : decode cX9_keeps 30 = .ok (.iinc 1 1, 3) := by decide +kernel
theorem dX9_keeps_33 : decode cX9_keeps 33 = .ok (.goto (-23), 3) := by decide +kernel
theorem dX9_keeps_36 : decode cX9_keeps 36 = .ok (.return_, 1) := by decide +kernel
theorem dX9_isKept_0 : decode cX9_isKept 0 = .ok (.aload_n 0, 1) := by decide +kernel
theorem dX9_isKept_1 : decode cX9_isKept 1 = .ok (.getfield 157, 3) := by decide +kernel
theorem dX9_isKept_4 : decode cX9_isKept 4 = .ok (.aload_n 0, 1) := by decide +kernel
theorem dX9_isKept_5 : decode cX9_isKept 5 = .ok (.getfield 202, 3) := by decide +kernel
theorem dX9_isKept_8 : decode cX9_isKept 8 = .ok (.if_icmp .ne 7, 3) := by decide +kernel
theorem dX9_isKept_11 : decode cX9_isKept 11 = .ok (.iconst 1, 1) := by decide +kernel
theorem dX9_isKept_12 : decode cX9_isKept 12 = .ok (.goto 4, 3) := by decide +kernel
theorem dX9_isKept_15 : decode cX9_isKept 15 = .ok (.iconst 0, 1) := by decide +kernel
theorem dX9_isKept_16 : decode cX9_isKept 16 = .ok (.istore_n 1, 1) := by decide +kernel
theorem dX9_isKept_17 : decode cX9_isKept 17 = .ok (.iconst 0, 1) := by decide +kernel
theorem dX9_isKept_18 : decode cX9_isKept 18 = .ok (.istore_n 2, 1) := by decide +kernel
theorem dX9_isKept_19 : decode cX9_isKept 19 = .ok (.iload_n 2, 1) := by decide +kernel
theorem dX9_isKept_20 : decode cX9_isKept 20 = .ok (.aload_n 0, 1) := by decide +kernel
theorem dX9_isKept_21 : decode cX9_isKept 21 = .ok (.getfield 157, 3) := by decide +kernel
theorem dX9_isKept_24 : decode cX9_isKept 24 = .ok (.if_icmp .ge 34, 3) := by decide +kernel
theorem dX9_isKept_27 : decode cX9_isKept 27 = .ok (.iload_n 1, 1) := by decide +kernel
theorem dX9_isKept_28 : decode cX9_isKept 28 = .ok (.ifCond .eq 30, 3) := by decide +kernel
theorem dX9_isKept_31 : decode cX9_isKept 31 = .ok (.aload_n 0, 1) := by decide +kernel
theorem dX9_isKept_32 : decode cX9_isKept 32 = .ok (.getfield 46, 3) := by decide +kernel
theorem dX9_isKept_35 : decode cX9_isKept 35 = .ok (.iload_n 2, 1) := by decide +kernel
theorem dX9_isKept_36 : decode cX9_isKept 36 = .ok (.iaload, 1) := by decide +kernel
theorem dX9_isKept_37 : decode cX9_isKept 37 = .ok (.aload_n 0, 1) := by decide +kernel
theorem dX9_isKept_38 : decode cX9_isKept 38 = .ok (.getfield 52, 3) := by decide +kernel
theorem dX9_isKept_41 : decode cX9_isKept 41 = .ok (.iload_n 2, 1) := by decide +kernel
theorem dX9_isKept_42 : decode cX9_isKept 42 = .ok (.iaload, 1) := by decide +kernel
theorem dX9_isKept_43 : decode cX9_isKept 43 = .ok (.if_icmp .ne 7, 3) := by decide +kernel
theorem dX9_isKept_46 : decode cX9_isKept 46 = .ok (.iconst 1, 1) := by decide +kernel
theorem dX9_isKept_47 : decode cX9_isKept 47 = .ok (.goto 4, 3) := by decide +kernel
theorem dX9_isKept_50 : decode cX9_isKept 50 = .ok (.iconst 0, 1) := by decide +kernel
theorem dX9_isKept_51 : decode cX9_isKept 51 = .ok (.istore_n 1, 1) := by decide +kernel
theorem dX9_isKept_52 : decode cX9_isKept 52 = .ok (.iinc 2 1, 3) := by decide +kernel
theorem dX9_isKept_55 : decode cX9_isKept 55 = .ok (.goto (-36), 3) := by decide +kernel
theorem dX9_isKept_58 : decode cX9_isKept 58 = .ok (.iload_n 1, 1) := by decide +kernel
theorem dX9_isKept_59 : decode cX9_isKept 59 = .ok (.ireturn, 1) := by decide +kernel
theorem dX9_isSorted_0 : decode cX9_isSorted 0 = .ok (.aload_n 0, 1) := by decide +kernel
theorem dX9_isSorted_1 : decode cX9_isSorted 1 = .ok (.invokevirtual 205, 3) := by decide +kernel
theorem dX9_isSorted_4 : decode cX9_isSorted 4 = .ok (.aload_n 0, 1) := by decide +kernel
theorem dX9_isSorted_5 : decode cX9_isSorted 5 = .ok (.invokevirtual 175, 3) := by decide +kernel
theorem dX9_isSorted_8 : decode cX9_isSorted 8 = .ok (.aload_n 0, 1) := by decide +kernel
theorem dX9_isSorted_9 : decode cX9_isSorted 9 = .ok (.invokevirtual 208, 3) := by decide +kernel
theorem dX9_isSorted_12 : decode cX9_isSorted 12 = .ok (.ireturn, 1) := by decide +kernel
theorem dX9_isSecond_0 : decode cX9_isSecond 0 = .ok (.iconst 0, 1) := by decide +kernel
theorem dX9_isSecond_1 : decode cX9_isSecond 1 = .ok (.istore_n 2, 1) := by decide +kernel
theorem dX9_isSecond_2 : decode cX9_isSecond 2 = .ok (.iconst 0, 1) := by decide +kernel
theorem dX9_isSecond_3 : decode cX9_isSecond 3 = .ok (.istore_n 3, 1) := by decide +kernel
theorem dX9_isSecond_4 : decode cX9_isSecond 4 = .ok (.iload_n 3, 1) := by decide +kernel
theorem dX9_isSecond_5 : decode cX9_isSecond 5 = .ok (.aload_n 0, 1) := by decide +kernel
theorem dX9_isSecond_6 : decode cX9_isSecond 6 = .ok (.getfield 62, 3) := by decide +kernel
theorem dX9_isSecond_9 : decode cX9_isSecond 9 = .ok (.if_icmp .ge 39, 3) := by decide +kernel
theorem dX9_isSecond_12 : decode cX9_isSecond 12 = .ok (.iload_n 2, 1) := by decide +kernel
theorem dX9_isSecond_13 : decode cX9_isSecond 13 = .ok (.ifCond .ne 23, 3) := by decide +kernel
theorem dX9_isSecond_16 : decode cX9_isSecond 16 = .ok (.aload_n 0, 1) := by decide +kernel
theorem dX9_isSecond_17 : decode cX9_isSecond 17 = .ok (.getfield 7, 3) := by decide +kernel
theorem dX9_isSecond_20 : decode cX9_isSecond 20 = .ok (.iload_n 3, 1) := by decide +kernel
theorem dX9_isSecond_21 : decode cX9_isSecond 21 = .ok (.iaload, 1) := by decide +kernel
theorem dX9_isSecond_22 : decode cX9_isSecond 22 = .ok (.iconst 1, 1) := by decide +kernel
theorem dX9_isSecond_23 : decode cX9_isSecond 23 = .ok (.if_icmp .ne 17, 3) := by decide +kernel
theorem dX9_isSecond_26 : decode cX9_isSecond 26 = .ok (.aload_n 0, 1) := by decide +kernel
theorem dX9_isSecond_27 : decode cX9_isSecond 27 = .ok (.getfield 19, 3) := by decide +kernel
theorem dX9_isSecond_30 : decode cX9_isSecond 30 = .ok (.iload_n 3, 1) := by decide +kernel
theorem dX9_isSecond_31 : decode cX9_isSecond 31 = .ok (.iaload, 1) := by decide +kernel
theorem dX9_isSecond_32 : decode cX9_isSecond 32 = .ok (.iload_n 1, 1) := by decide +kernel
theorem dX9_isSecond_33 : decode cX9_isSecond 33 = .ok (.if_icmp .ne 7, 3) := by decide +kernel
theorem dX9_isSecond_36 : decode cX9_isSecond 36 = .ok (.iconst 1, 1) := by decide +kernel
theorem dX9_isSecond_37 : decode cX9_isSecond 37 = .ok (.goto 4, 3) := by decide +kernel
theorem dX9_isSecond_40 : decode cX9_isSecond 40 = .ok (.iconst 0, 1) := by decide +kernel
theorem dX9_isSecond_41 : decode cX9_isSecond 41 = .ok (.istore_n 2, 1) := by decide +kernel
theorem dX9_isSecond_42 : decode cX9_isSecond 42 = .ok (.iinc 3 1, 3) := by decide +kernel
theorem dX9_isSecond_45 : decode cX9_isSecond 45 = .ok (.goto (-41), 3) := by decide +kernel
theorem dX9_isSecond_48 : decode cX9_isSecond 48 = .ok (.iload_n 2, 1) := by decide +kernel
theorem dX9_isSecond_49 : decode cX9_isSecond 49 = .ok (.ireturn, 1) := by decide +kernel
theorem dX9_quick_0 : decode cX9_quick 0 = .ok (.iload_n 1, 1) := by decide +kernel
theorem dX9_quick_1 : decode cX9_quick 1 = .ok (.invokestatic 147, 3) := by decide +kernel
theorem dX9_quick_4 : decode cX9_quick 4 = .ok (.ifCond .eq 12, 3) := by decide +kernel
theorem dX9_quick_7 : decode cX9_quick 7 = .ok (.iload_n 2, 1) := by decide +kernel
theorem dX9_quick_8 : decode cX9_quick 8 = .ok (.iconst 0, 1) := by decide +kernel
theorem dX9_quick_9 : decode cX9_quick 9 = .ok (.iconst 1, 1) := by decide +kernel
theorem dX9_quick_10 : decode cX9_quick 10 = .ok (.invokestatic 66, 3) := by decide +kernel
theorem dX9_quick_13 : decode cX9_quick 13 = .ok (.ifCond .ne 5, 3) := by decide +kernel
theorem dX9_quick_16 : decode cX9_quick 16 = .ok (.iconst (-1), 1) := by decide +kernel
theorem dX9_quick_17 : decode cX9_quick 17 = .ok (.ireturn, 1) := by decide +kernel
theorem dX9_quick_18 : decode cX9_quick 18 = .ok (.iconst 1, 1) := by decide +kernel
theorem dX9_quick_19 : decode cX9_quick 19 = .ok (.istore_n 3, 1) := by decide +kernel
theorem dX9_quick_20 : decode cX9_quick 20 = .ok (.iconst 0, 1) := by decide +kernel
theorem dX9_quick_21 : decode cX9_quick 21 = .ok (.istore 4, 2) := by decide +kernel
theorem dX9_quick_23 : decode cX9_quick 23 = .ok (.iconst 0, 1) := by decide +kernel
theorem dX9_quick_24 : decode cX9_quick 24 = .ok (.istore 5, 2) := by decide +kernel
theorem dX9_quick_26 : decode cX9_quick 26 = .ok (.iconst 0, 1) := by decide +kernel
theorem dX9_quick_27 : decode cX9_quick 27 = .ok (.istore 6, 2) := by decide +kernel
theorem dX9_quick_29 : decode cX9_quick 29 = .ok (.iload 6, 2) := by decide +kernel
theorem dX9_quick_31 : decode cX9_quick 31 = .ok (.aload_n 0, 1) := by decide +kernel
theorem dX9_quick_32 : decode cX9_quick 32 = .ok (.getfield 34, 3) := by decide +kernel
theorem dX9_quick_35 : decode cX9_quick 35 = .ok (.iload_n 1, 1) := by decide +kernel
theorem dX9_quick_36 : decode cX9_quick 36 = .ok (.iaload, 1) := by decide +kernel
theorem dX9_quick_37 : decode cX9_quick 37 = .ok (.if_icmp .ge 105, 3) := by decide +kernel
theorem dX9_quick_40 : decode cX9_quick 40 = .ok (.aload_n 0, 1) := by decide +kernel
theorem dX9_quick_41 : decode cX9_quick 41 = .ok (.getfield 37, 3) := by decide +kernel
theorem dX9_quick_44 : decode cX9_quick 44 = .ok (.bipush 16, 2) := by decide +kernel
theorem dX9_quick_46 : decode cX9_quick 46 = .ok (.iload_n 1, 1) := by decide +kernel
theorem dX9_quick_47 : decode cX9_quick 47 = .ok (.imul, 1) := by decide +kernel
theorem dX9_quick_48 : decode cX9_quick 48 = .ok (.iload 6, 2) := by decide +kernel
theorem dX9_quick_50 : decode cX9_quick 50 = .ok (.iadd, 1) := by decide +kernel
theorem dX9_quick_51 : decode cX9_quick 51 = .ok (.iaload, 1) := by decide +kernel
theorem dX9_quick_52 : decode cX9_quick 52 = .ok (.istore 7, 2) := by decide +kernel
theorem dX9_quick_54 : decode cX9_quick 54 = .ok (.iload_n 3, 1) := by decide +kernel
theorem dX9_quick_55 : decode cX9_quick 55 = .ok (.ifCond .eq 17, 3) := by decide +kernel
theorem dX9_quick_58 : decode cX9_quick 58 = .ok (.aload_n 0, 1) := by decide +kernel
theorem dX9_quick_59 : decode cX9_quick 59 = .ok (.getfield 7, 3) := by decide +kernel
theorem dX9_quick_62 : decode cX9_quick 62 = .ok (.iload 7, 2) := by decide +kernel
theorem dX9_quick_64 : decode cX9_quick 64 = .ok (.iaload, 1) := by decide +kernel
theorem dX9_quick_65 : decode cX9_quick 65 = .ok (.ifCond .ne 7, 3) := by decide +kernel
theorem dX9_quick_68 : decode cX9_quick 68 = .ok (.iconst 1, 1) := by decide +kernel
theorem dX9_quick_69 : decode cX9_quick 69 = .ok (.goto 4, 3) := by decide +kernel
theorem dX9_quick_72 : decode cX9_quick 72 = .ok (.iconst 0, 1) := by decide +kernel
theorem dX9_quick_73 : decode cX9_quick 73 = .ok (.istore_n 3, 1) := by decide +kernel
theorem dX9_quick_74 : decode cX9_quick 74 = .ok (.iload 4, 2) := by decide +kernel
theorem dX9_quick_76 : decode cX9_quick 76 = .ok (.ifCond .ne 25, 3) := by decide +kernel
theorem dX9_quick_79 : decode cX9_quick 79 = .ok (.aload_n 0, 1) := by decide +kernel
theorem dX9_quick_80 : decode cX9_quick 80 = .ok (.getfield 7, 3) := by decide +kernel
theorem dX9_quick_83 : decode cX9_quick 83 = .ok (.iload 7, 2) := by decide +kernel
theorem dX9_quick_85 : decode cX9_quick 85 = .ok (.iaload, 1) := by decide +kernel
theorem dX9_quick_86 : decode cX9_quick 86 = .ok (.iconst 2, 1) := by decide +kernel
theorem dX9_quick_87 : decode cX9_quick 87 = .ok (.if_icmp .eq 14, 3) := by decide +kernel
theorem dX9_quick_90 : decode cX9_quick 90 = .ok (.aload_n 0, 1) := by decide +kernel
theorem dX9_quick_91 : decode cX9_quick 91 = .ok (.getfield 7, 3) := by decide +kernel
theorem dX9_quick_94 : decode cX9_quick 94 = .ok (.iload 7, 2) := by decide +kernel
theorem dX9_quick_96 : decode cX9_quick 96 = .ok (.iaload, 1) := by decide +kernel
theorem dX9_quick_97 : decode cX9_quick 97 = .ok (.iconst 3, 1) := by decide +kernel
theorem dX9_quick_98 : decode cX9_quick 98 = .ok (.if_icmp .ne 7, 3) := by decide +kernel
theorem dX9_quick_101 : decode cX9_quick 101 = .ok (.iconst 1, 1) := by decide +kernel
theorem dX9_quick_102 : decode cX9_quick 102 = .ok (.goto 4, 3) := by decide +kernel
theorem dX9_quick_105 : decode cX9_quick 105 = .ok (.iconst 0, 1) := by decide +kernel
theorem dX9_quick_106 : decode cX9_quick 106 = .ok (.istore 4, 2) := by decide +kernel
theorem dX9_quick_108 : decode cX9_quick 108 = .ok (.iload 5, 2) := by decide +kernel
theorem dX9_quick_110 : decode cX9_quick 110 = .ok (.ifCond .ne 19, 3) := by decide +kernel
theorem dX9_quick_113 : decode cX9_quick 113 = .ok (.aload_n 0, 1) := by decide +kernel
theorem dX9_quick_114 : decode cX9_quick 114 = .ok (.aload_n 0, 1) := by decide +kernel
theorem dX9_quick_115 : decode cX9_quick 115 = .ok (.getfield 25, 3) := by decide +kernel
theorem dX9_quick_118 : decode cX9_quick 118 = .ok (.iconst 4, 1) := by decide +kernel
theorem dX9_quick_119 : decode cX9_quick 119 = .ok (.iload 7, 2) := by decide +kernel
theorem dX9_quick_121 : decode cX9_quick 121 = .ok (.imul, 1) := by decide +kernel
theorem dX9_quick_122 : decode cX9_quick 122 = .ok (.iaload, 1) := by decide +kernel
theorem dX9_quick_123 : decode cX9_quick 123 = .ok (.invokevirtual 211, 3) := by decide +kernel
theorem dX9_quick_126 : decode cX9_quick 126 = .ok (.ifCond .eq 7, 3) := by decide +kernel
theorem dX9_quick_129 : decode cX9_quick 129 = .ok (.iconst 1, 1) := by decide +kernel
theorem dX9_quick_130 : decode cX9_quick 130 = .ok (.goto 4, 3) := by decide +kernel
theorem dX9_quick_133 : decode cX9_quick 133 = .ok (.iconst 0, 1) := by decide +kernel
theorem dX9_quick_134 : decode cX9_quick 134 = .ok (.istore 5, 2) := by decide +kernel
theorem dX9_quick_136 : decode cX9_quick 136 = .ok (.iinc 6 1, 3) := by decide +kernel
theorem dX9_quick_139 : decode cX9_quick 139 = .ok (.goto (-110), 3) := by decide +kernel
theorem dX9_quick_142 : decode cX9_quick 142 = .ok (.aload_n 0, 1) := by decide +kernel
theorem dX9_quick_143 : decode cX9_quick 143 = .ok (.iload_n 1, 1) := by decide +kernel
theorem dX9_quick_144 : decode cX9_quick 144 = .ok (.invokevirtual 193, 3) := by decide +kernel
theorem dX9_quick_147 : decode cX9_quick 147 = .ok (.aload_n 0, 1) := by decide +kernel
theorem dX9_quick_148 : decode cX9_quick 148 = .ok (.invokevirtual 214, 3) := by decide +kernel
theorem dX9_quick_151 : decode cX9_quick 151 = .ok (.istore 6, 2) := by decide +kernel
theorem dX9_quick_153 : decode cX9_quick 153 = .ok (.iload_n 2, 1) := by decide +kernel
theorem dX9_quick_154 : decode cX9_quick 154 = .ok (.ifCond .ne 18, 3) := by decide +kernel
theorem dX9_quick_157 : decode cX9_quick 157 = .ok (.iload_n 3, 1) := by decide +kernel
theorem dX9_quick_158 : decode cX9_quick 158 = .ok (.ifCond .eq 12, 3) := by decide +kernel
theorem dX9_quick_161 : decode cX9_quick 161 = .ok (.iload 6, 2) := by decide +kernel
theorem dX9_quick_163 : decode cX9_quick 163 = .ok (.ifCond .eq 7, 3) := by decide +kernel
theorem dX9_quick_166 : decode cX9_quick 166 = .ok (.iconst 1, 1) := by decide +kernel
theorem dX9_quick_167 : decode cX9_quick 167 = .ok (.goto 4, 3) := by decide +kernel
theorem dX9_quick_170 : decode cX9_quick 170 = .ok (.iconst 0, 1) := by decide +kernel
theorem dX9_quick_171 : decode cX9_quick 171 = .ok (.ireturn, 1) := by decide +kernel
theorem dX9_quick_172 : decode cX9_quick 172 = .ok (.iload 4, 2) := by decide +kernel
theorem dX9_quick_174 : decode cX9_quick 174 = .ok (.ifCond .ne 8, 3) := by decide +kernel
theorem dX9_quick_177 : decode cX9_quick 177 = .ok (.iload 6, 2) := by decide +kernel
theorem dX9_quick_179 : decode cX9_quick 179 = .ok (.ifCond .ne 7, 3) := by decide +kernel
theorem dX9_quick_182 : decode cX9_quick 182 = .ok (.iconst 0, 1) := by decide +kernel
theorem dX9_quick_183 : decode cX9_quick 183 = .ok (.goto 13, 3) := by decide +kernel
theorem dX9_quick_186 : decode cX9_quick 186 = .ok (.iload 5, 2) := by decide +kernel
theorem dX9_quick_188 : decode cX9_quick 188 = .ok (.ifCond .eq 7, 3) := by decide +kernel
theorem dX9_quick_191 : decode cX9_quick 191 = .ok (.iconst 2, 1) := by decide +kernel
theorem dX9_quick_192 : decode cX9_quick 192 = .ok (.goto 4, 3) := by decide +kernel
theorem dX9_quick_195 : decode cX9_quick 195 = .ok (.iconst 1, 1) := by decide +kernel
theorem dX9_quick_196 : decode cX9_quick 196 = .ok (.ireturn, 1) := by decide +kernel
theorem dX9_same_0 : decode cX9_same 0 = .ok (.iload_n 1, 1) := by decide +kernel
theorem dX9_same_1 : decode cX9_same 1 = .ok (.invokestatic 147, 3) := by decide +kernel
theorem dX9_same_4 : decode cX9_same 4 = .ok (.ifCond .eq 17, 3) := by decide +kernel
theorem dX9_same_7 : decode cX9_same 7 = .ok (.iload_n 2, 1) := by decide +kernel
theorem dX9_same_8 : decode cX9_same 8 = .ok (.invokestatic 147, 3) := by decide +kernel
theorem dX9_same_11 : decode cX9_same 11 = .ok (.ifCond .eq 10, 3) := by decide +kernel
theorem dX9_same_14 : decode cX9_same 14 = .ok (.iload_n 3, 1) := by decide +kernel
theorem dX9_same_15 : decode cX9_same 15 = .ok (.invokestatic 190, 3) := by decide +kernel
theorem dX9_same_18 : decode cX9_same 18 = .ok (.ifCond .ne 5, 3) := by decide +kernel
theorem dX9_same_21 : decode cX9_same 21 = .ok (.iconst (-1), 1) := by decide +kernel
theorem dX9_same_22 : decode cX9_same 22 = .ok (.ireturn, 1) := by decide +kernel
theorem dX9_same_23 : decode cX9_same 23 = .ok (.aload_n 0, 1) := by decide +kernel
theorem dX9_same_24 : decode cX9_same 24 = .ok (.iload_n 1, 1) := by decide +kernel
theorem dX9_same_25 : decode cX9_same 25 = .ok (.invokevirtual 193, 3) := by decide +kernel
theorem dX9_same_28 : decode cX9_same 28 = .ok (.aload_n 0, 1) := by decide +kernel
theorem dX9_same_29 : decode cX9_same 29 = .ok (.iload_n 3, 1) := by decide +kernel
theorem dX9_same_30 : decode cX9_same 30 = .ok (.invokevirtual 196, 3) := by decide +kernel
theorem dX9_same_33 : decode cX9_same 33 = .ok (.aload_n 0, 1) := by decide +kernel
theorem dX9_same_34 : decode cX9_same 34 = .ok (.invokevirtual 205, 3) := by decide +kernel
theorem dX9_same_37 : decode cX9_same 37 = .ok (.aload_n 0, 1) := by decide +kernel
theorem dX9_same_38 : decode cX9_same 38 = .ok (.iload_n 2, 1) := by decide +kernel
theorem dX9_same_39 : decode cX9_same 39 = .ok (.invokevirtual 193, 3) := by decide +kernel
theorem dX9_same_42 : decode cX9_same 42 = .ok (.aload_n 0, 1) := by decide +kernel
theorem dX9_same_43 : decode cX9_same 43 = .ok (.iload_n 3, 1) := by decide +kernel
theorem dX9_same_44 : decode cX9_same 44 = .ok (.invokevirtual 196, 3) := by decide +kernel
theorem dX9_same_47 : decode cX9_same 47 = .ok (.aload_n 0, 1) := by decide +kernel
theorem dX9_same_48 : decode cX9_same 48 = .ok (.invokevirtual 208, 3) := by decide +kernel
theorem dX9_same_51 : decode cX9_same 51 = .ok (.ifCond .eq 7, 3) := by decide +kernel
theorem dX9_same_54 : decode cX9_same 54 = .ok (.iconst 1, 1) := by decide +kernel
theorem dX9_same_55 : decode cX9_same 55 = .ok (.goto 4, 3) := by decide +kernel
theorem dX9_same_58 : decode cX9_same 58 = .ok (.iconst 0, 1) := by decide +kernel
theorem dX9_same_59 : decode cX9_same 59 = .ok (.ireturn, 1) := by decide +kernel
theorem dX9_seam_0 : decode cX9_seam 0 = .ok (.iload_n 1, 1) := by decide +kernel
theorem dX9_seam_1 : decode cX9_seam 1 = .ok (.invokestatic 147, 3) := by decide +kernel
theorem dX9_seam_4 : decode cX9_seam 4 = .ok (.ifCond .eq 27, 3) := by decide +kernel
theorem dX9_seam_7 : decode cX9_seam 7 = .ok (.iload_n 2, 1) := by decide +kernel
theorem dX9_seam_8 : decode cX9_seam 8 = .ok (.invokestatic 147, 3) := by decide +kernel
theorem dX9_seam_11 : decode cX9_seam 11 = .ok (.ifCond .eq 20, 3) := by decide +kernel
theorem dX9_seam_14 : decode cX9_seam 14 = .ok (.iload_n 3, 1) := by decide +kernel
theorem dX9_seam_15 : decode cX9_seam 15 = .ok (.invokestatic 190, 3) := by decide +kernel
theorem dX9_seam_18 : decode cX9_seam 18 = .ok (.ifCond .eq 13, 3) := by decide +kernel
theorem dX9_seam_21 : decode cX9_seam 21 = .ok (.iload 4, 2) := by decide +kernel
theorem dX9_seam_23 : decode cX9_seam 23 = .ok (.iconst 0, 1) := by decide +kernel
theorem dX9_seam_24 : decode cX9_seam 24 = .ok (.iconst 2, 1) := by decide +kernel
theorem dX9_seam_25 : decode cX9_seam 25 = .ok (.invokestatic 66, 3) := by decide +kernel
theorem dX9_seam_28 : decode cX9_seam 28 = .ok (.ifCond .ne 5, 3) := by decide +kernel
theorem dX9_seam_31 : decode cX9_seam 31 = .ok (.iconst (-1), 1) := by decide +kernel
theorem dX9_seam_32 : decode cX9_seam 32 = .ok (.ireturn, 1) := by decide +kernel
theorem dX9_seam_33 : decode cX9_seam 33 = .ok (.aload_n 0, 1) := by decide +kernel
theorem dX9_seam_34 : decode cX9_seam 34 = .ok (.iload_n 1, 1) := by decide +kernel
theorem dX9_seam_35 : decode cX9_seam 35 = .ok (.invokevirtual 193, 3) := by decide +kernel
theorem dX9_seam_38 : decode cX9_seam 38 = .ok (.aload_n 0, 1) := by decide +kernel
theorem dX9_seam_39 : decode cX9_seam 39 = .ok (.iload_n 2, 1) := by decide +kernel
theorem dX9_seam_40 : decode cX9_seam 40 = .ok (.invokevirtual 160, 3) := by decide +kernel
theorem dX9_seam_43 : decode cX9_seam 43 = .ok (.aload_n 0, 1) := by decide +kernel
theorem dX9_seam_44 : decode cX9_seam 44 = .ok (.iload_n 3, 1) := by decide +kernel
theorem dX9_seam_45 : decode cX9_seam 45 = .ok (.invokevirtual 196, 3) := by decide +kernel
theorem dX9_seam_48 : decode cX9_seam 48 = .ok (.aload_n 0, 1) := by decide +kernel
theorem dX9_seam_49 : decode cX9_seam 49 = .ok (.invokevirtual 205, 3) := by decide +kernel
theorem dX9_seam_52 : decode cX9_seam 52 = .ok (.aload_n 0, 1) := by decide +kernel
theorem dX9_seam_53 : decode cX9_seam 53 = .ok (.iload_n 1, 1) := by decide +kernel
theorem dX9_seam_54 : decode cX9_seam 54 = .ok (.invokevirtual 193, 3) := by decide +kernel
theorem dX9_seam_57 : decode cX9_seam 57 = .ok (.aload_n 0, 1) := by decide +kernel
theorem dX9_seam_58 : decode cX9_seam 58 = .ok (.iload_n 3, 1) := by decide +kernel
theorem dX9_seam_59 : decode cX9_seam 59 = .ok (.invokevirtual 196, 3) := by decide +kernel
theorem dX9_seam_62 : decode cX9_seam 62 = .ok (.iconst 0, 1) := by decide +kernel
theorem dX9_seam_63 : decode cX9_seam 63 = .ok (.istore 5, 2) := by decide +kernel
theorem dX9_seam_65 : decode cX9_seam 65 = .ok (.iload 5, 2) := by decide +kernel
theorem dX9_seam_67 : decode cX9_seam 67 = .ok (.aload_n 0, 1) := by decide +kernel
theorem dX9_seam_68 : decode cX9_seam 68 = .ok (.getfield 157, 3) := by decide +kernel
theorem dX9_seam_71 : decode cX9_seam 71 = .ok (.if_icmp .ge 35, 3) := by decide +kernel
theorem dX9_seam_74 : decode cX9_seam 74 = .ok (.iload 5, 2) := by decide +kernel
theorem dX9_seam_76 : decode cX9_seam 76 = .ok (.aload_n 0, 1) := by decide +kernel
theorem dX9_seam_77 : decode cX9_seam 77 = .ok (.getfield 202, 3) := by decide +kernel
theorem dX9_seam_80 : decode cX9_seam 80 = .ok (.if_icmp .ge 26, 3) := by decide +kernel
theorem dX9_seam_83 : decode cX9_seam 83 = .ok (.aload_n 0, 1) := by decide +kernel
theorem dX9_seam_84 : decode cX9_seam 84 = .ok (.getfield 46, 3) := by decide +kernel
theorem dX9_seam_87 : decode cX9_seam 87 = .ok (.iload 5, 2) := by decide +kernel
theorem dX9_seam_89 : decode cX9_seam 89 = .ok (.iaload, 1) := by decide +kernel
theorem dX9_seam_90 : decode cX9_seam 90 = .ok (.aload_n 0, 1) := by decide +kernel
theorem dX9_seam_91 : decode cX9_seam 91 = .ok (.getfield 52, 3) := by decide +kernel
theorem dX9_seam_94 : decode cX9_seam 94 = .ok (.iload 5, 2) := by decide +kernel
theorem dX9_seam_96 : decode cX9_seam 96 = .ok (.iaload, 1) := by decide +kernel
theorem dX9_seam_97 : decode cX9_seam 97 = .ok (.if_icmp .ne 9, 3) := by decide +kernel
theorem dX9_seam_100 : decode cX9_seam 100 = .ok (.iinc 5 1, 3) := by decide +kernel
theorem dX9_seam_103 : decode cX9_seam 103 = .ok (.goto (-38), 3) := by decide +kernel
theorem dX9_seam_106 : decode cX9_seam 106 = .ok (.aload_n 0, 1) := by decide +kernel
theorem dX9_seam_107 : decode cX9_seam 107 = .ok (.iload_n 2, 1) := by decide +kernel
theorem dX9_seam_108 : decode cX9_seam 108 = .ok (.invokevirtual 193, 3) := by decide +kernel
theorem dX9_seam_111 : decode cX9_seam 111 = .ok (.aload_n 0, 1) := by decide +kernel
theorem dX9_seam_112 : decode cX9_seam 112 = .ok (.iload_n 3, 1) := by decide +kernel
theorem dX9_seam_113 : decode cX9_seam 113 = .ok (.invokevirtual 196, 3) := by decide +kernel
theorem dX9_seam_116 : decode cX9_seam 116 = .ok (.iconst 0, 1) := by decide +kernel
theorem dX9_seam_117 : decode cX9_seam 117 = .ok (.istore 6, 2) := by decide +kernel
theorem dX9_seam_119 : decode cX9_seam 119 = .ok (.iload 6, 2) := by decide +kernel
theorem dX9_seam_121 : decode cX9_seam 121 = .ok (.aload_n 0, 1) := by decide +kernel
theorem dX9_seam_122 : decode cX9_seam 122 = .ok (.getfield 157, 3) := by decide +kernel
theorem dX9_seam_125 : decode cX9_seam 125 = .ok (.if_icmp .ge 52, 3) := by decide +kernel
theorem dX9_seam_128 : decode cX9_seam 128 = .ok (.iload 6, 2) := by decide +kernel
theorem dX9_seam_130 : decode cX9_seam 130 = .ok (.aload_n 0, 1) := by decide +kernel
theorem dX9_seam_131 : decode cX9_seam 131 = .ok (.getfield 202, 3) := by decide +kernel
theorem dX9_seam_134 : decode cX9_seam 134 = .ok (.iload 5, 2) := by decide +kernel
theorem dX9_seam_136 : decode cX9_seam 136 = .ok (.isub, 1) := by decide +kernel
theorem dX9_seam_137 : decode cX9_seam 137 = .ok (.if_icmp .ge 40, 3) := by decide +kernel
theorem dX9_seam_140 : decode cX9_seam 140 = .ok (.aload_n 0, 1) := by decide +kernel
theorem dX9_seam_141 : decode cX9_seam 141 = .ok (.getfield 46, 3) := by decide +kernel
theorem dX9_seam_144 : decode cX9_seam 144 = .ok (.aload_n 0, 1) := by decide +kernel
theorem dX9_seam_145 : decode cX9_seam 145 = .ok (.getfield 157, 3) := by decide +kernel
theorem dX9_seam_148 : decode cX9_seam 148 = .ok (.iconst 1, 1) := by decide +kernel
theorem dX9_seam_149 : decode cX9_seam 149 = .ok (.isub, 1) := by decide +kernel
theorem dX9_seam_150 : decode cX9_seam 150 = .ok (.iload 6, 2) := by decide +kernel
theorem dX9_seam_152 : decode cX9_seam 152 = .ok (.isub, 1) := by decide +kernel
theorem dX9_seam_153 : decode cX9_seam 153 = .ok (.iaload, 1) := by decide +kernel
theorem dX9_seam_154 : decode cX9_seam 154 = .ok (.aload_n 0, 1) := by decide +kernel
theorem dX9_seam_155 : decode cX9_seam 155 = .ok (.getfield 52, 3) := by decide +kernel
theorem dX9_seam_158 : decode cX9_seam 158 = .ok (.aload_n 0, 1) := by decide +kernel
theorem dX9_seam_159 : decode cX9_seam 159 = .ok (.getfield 202, 3) := by decide +kernel
theorem dX9_seam_162 : decode cX9_seam 162 = .ok (.iconst 1, 1) := by decide +kernel
theorem dX9_seam_163 : decode cX9_seam 163 = .ok (.isub, 1) := by decide +kernel
theorem dX9_seam_164 : decode cX9_seam 164 = .ok (.iload 6, 2) := by decide +kernel
theorem dX9_seam_166 : decode cX9_seam 166 = .ok (.isub, 1) := by decide +kernel
theorem dX9_seam_167 : decode cX9_seam 167 = .ok (.iaload, 1) := by decide +kernel
theorem dX9_seam_168 : decode cX9_seam 168 = .ok (.if_icmp .ne 9, 3) := by decide +kernel
theorem dX9_seam_171 : decode cX9_seam 171 = .ok (.iinc 6 1, 3) := by decide +kernel
theorem dX9_seam_174 : decode cX9_seam 174 = .ok (.goto (-55), 3) := by decide +kernel
theorem dX9_seam_177 : decode cX9_seam 177 = .ok (.iload 4, 2) := by decide +kernel
theorem dX9_seam_179 : decode cX9_seam 179 = .ok (.ifCond .ne 8, 3) := by decide +kernel
theorem dX9_seam_182 : decode cX9_seam 182 = .ok (.iload 5, 2) := by decide +kernel
theorem dX9_seam_184 : decode cX9_seam 184 = .ok (.goto 24, 3) := by decide +kernel
theorem dX9_seam_187 : decode cX9_seam 187 = .ok (.iload 4, 2) := by decide +kernel
theorem dX9_seam_189 : decode cX9_seam 189 = .ok (.iconst 1, 1) := by decide +kernel
theorem dX9_seam_190 : decode cX9_seam 190 = .ok (.if_icmp .ne 8, 3) := by decide +kernel
theorem dX9_seam_193 : decode cX9_seam 193 = .ok (.iload 6, 2) := by decide +kernel
theorem dX9_seam_195 : decode cX9_seam 195 = .ok (.goto 13, 3) := by decide +kernel
theorem dX9_seam_198 : decode cX9_seam 198 = .ok (.aload_n 0, 1) := by decide +kernel
theorem dX9_seam_199 : decode cX9_seam 199 = .ok (.getfield 202, 3) := by decide +kernel
theorem dX9_seam_202 : decode cX9_seam 202 = .ok (.iload 5, 2) := by decide +kernel
theorem dX9_seam_204 : decode cX9_seam 204 = .ok (.isub, 1) := by decide +kernel
theorem dX9_seam_205 : decode cX9_seam 205 = .ok (.iload 6, 2) := by decide +kernel
theorem dX9_seam_207 : decode cX9_seam 207 = .ok (.isub, 1) := by decide +kernel
theorem dX9_seam_208 : decode cX9_seam 208 = .ok (.ireturn, 1) := by decide +kernel
theorem dX9_stands_0 : decode cX9_stands 0 = .ok (.iload_n 2, 1) := by decide +kernel
theorem dX9_stands_1 : decode cX9_stands 1 = .ok (.aload_n 0, 1) := by decide +kernel
theorem dX9_stands_2 : decode cX9_stands 2 = .ok (.getfield 22, 3) := by decide +kernel
theorem dX9_stands_5 : decode cX9_stands 5 = .ok (.iload_n 1, 1) := by decide +kernel
theorem dX9_stands_6 : decode cX9_stands 6 = .ok (.iaload, 1) := by decide +kernel
theorem dX9_stands_7 : decode cX9_stands 7 = .ok (.iadd, 1) := by decide +kernel
theorem dX9_stands_8 : decode cX9_stands 8 = .ok (.aload_n 0, 1) := by decide +kernel
theorem dX9_stands_9 : decode cX9_stands 9 = .ok (.getfield 157, 3) := by decide +kernel
theorem dX9_stands_12 : decode cX9_stands 12 = .ok (.if_icmp .gt 7, 3) := by decide +kernel
theorem dX9_stands_15 : decode cX9_stands 15 = .ok (.iconst 1, 1) := by decide +kernel
theorem dX9_stands_16 : decode cX9_stands 16 = .ok (.goto 4, 3) := by decide +kernel
theorem dX9_stands_19 : decode cX9_stands 19 = .ok (.iconst 0, 1) := by decide +kernel
theorem dX9_stands_20 : decode cX9_stands 20 = .ok (.istore_n 3, 1) := by decide +kernel
theorem dX9_stands_21 : decode cX9_stands 21 = .ok (.iconst 0, 1) := by decide +kernel
theorem dX9_stands_22 : decode cX9_stands 22 = .ok (.istore 4, 2) := by decide +kernel
theorem dX9_stands_24 : decode cX9_stands 24 = .ok (.iload 4, 2) := by decide +kernel
theorem dX9_stands_26 : decode cX9_stands 26 = .ok (.aload_n 0, 1) := by decide +kernel
theorem dX9_stands_27 : decode cX9_stands 27 = .ok (.getfield 22, 3) := by decide +kernel
theorem dX9_stands_30 : decode cX9_stands 30 = .ok (.iload_n 1, 1) := by decide +kernel
theorem dX9_stands_31 : decode cX9_stands 31 = .ok (.iaload, 1) := by decide +kernel
theorem dX9_stands_32 : decode cX9_stands 32 = .ok (.if_icmp .ge 42, 3) := by decide +kernel
theorem dX9_stands_35 : decode cX9_stands 35 = .ok (.iload_n 3, 1) := by decide +kernel
theorem dX9_stands_36 : decode cX9_stands 36 = .ok (.ifCond .eq 38, 3) := by decide +kernel
theorem dX9_stands_39 : decode cX9_stands 39 = .ok (.aload_n 0, 1) := by decide +kernel
theorem dX9_stands_40 : decode cX9_stands 40 = .ok (.getfield 46, 3) := by decide +kernel
theorem dX9_stands_43 : decode cX9_stands 43 = .ok (.iload_n 2, 1) := by decide +kernel
theorem dX9_stands_44 : decode cX9_stands 44 = .ok (.iload 4, 2) := by decide +kernel
theorem dX9_stands_46 : decode cX9_stands 46 = .ok (.iadd, 1) := by decide +kernel
theorem dX9_stands_47 : decode cX9_stands 47 = .ok (.iaload, 1) := by decide +kernel
theorem dX9_stands_48 : decode cX9_stands 48 = .ok (.aload_n 0, 1) := by decide +kernel
theorem dX9_stands_49 : decode cX9_stands 49 = .ok (.getfield 25, 3) := by decide +kernel
theorem dX9_stands_52 : decode cX9_stands 52 = .ok (.iconst 4, 1) := by decide +kernel
theorem dX9_stands_53 : decode cX9_stands 53 = .ok (.iload_n 1, 1) := by decide +kernel
theorem dX9_stands_54 : decode cX9_stands 54 = .ok (.imul, 1) := by decide +kernel
theorem dX9_stands_55 : decode cX9_stands 55 = .ok (.iload 4, 2) := by decide +kernel
theorem dX9_stands_57 : decode cX9_stands 57 = .ok (.iadd, 1) := by decide +kernel
theorem dX9_stands_58 : decode cX9_stands 58 = .ok (.iaload, 1) := by decide +kernel
theorem dX9_stands_59 : decode cX9_stands 59 = .ok (.if_icmp .ne 7, 3) := by decide +kernel
theorem dX9_stands_62 : decode cX9_stands 62 = .ok (.iconst 1, 1) := by decide +kernel
theorem dX9_stands_63 : decode cX9_stands 63 = .ok (.goto 4, 3) := by decide +kernel
theorem dX9_stands_66 : decode cX9_stands 66 = .ok (.iconst 0, 1) := by decide +kernel
theorem dX9_stands_67 : decode cX9_stands 67 = .ok (.istore_n 3, 1) := by decide +kernel
theorem dX9_stands_68 : decode cX9_stands 68 = .ok (.iinc 4 1, 3) := by decide +kernel
theorem dX9_stands_71 : decode cX9_stands 71 = .ok (.goto (-47), 3) := by decide +kernel
theorem dX9_stands_74 : decode cX9_stands 74 = .ok (.iload_n 3, 1) := by decide +kernel
theorem dX9_stands_75 : decode cX9_stands 75 = .ok (.ireturn, 1) := by decide +kernel
theorem dX9_spellings_0 : decode cX9_spellings 0 = .ok (.iload_n 1, 1) := by decide +kernel
theorem dX9_spellings_1 : decode cX9_spellings 1 = .ok (.invokestatic 147, 3) := by decide +kernel
theorem dX9_spellings_4 : decode cX9_spellings 4 = .ok (.ifCond .ne 7, 3) := by decide +kernel
theorem dX9_spellings_7 : decode cX9_spellings 7 = .ok (.ldc2_w 217, 3) := by decide +kernel
theorem dX9_spellings_10 : decode cX9_spellings 10 = .ok (.lreturn, 1) := by decide +kernel
theorem dX9_spellings_11 : decode cX9_spellings 11 = .ok (.aload_n 0, 1) := by decide +kernel
theorem dX9_spellings_12 : decode cX9_spellings 12 = .ok (.iload_n 1, 1) := by decide +kernel
theorem dX9_spellings_13 : decode cX9_spellings 13 = .ok (.invokevirtual 193, 3) := by decide +kernel
theorem dX9_spellings_16 : decode cX9_spellings 16 = .ok (.aload_n 0, 1) := by decide +kernel
theorem dX9_spellings_17 : decode cX9_spellings 17 = .ok (.iconst 0, 1) := by decide +kernel
theorem dX9_spellings_18 : decode cX9_spellings 18 = .ok (.invokevirtual 196, 3) := by decide +kernel
theorem dX9_spellings_21 : decode cX9_spellings 21 = .ok (.aload_n 0, 1) := by decide +kernel
theorem dX9_spellings_22 : decode cX9_spellings 22 = .ok (.getfield 55, 3) := by decide +kernel
theorem dX9_spellings_25 : decode cX9_spellings 25 = .ok (.aload_n 0, 1) := by decide +kernel
theorem dX9_spellings_26 : decode cX9_spellings 26 = .ok (.getfield 157, 3) := by decide +kernel
theorem dX9_spellings_29 : decode cX9_spellings 29 = .ok (.lconst 1, 1) := by decide +kernel
theorem dX9_spellings_30 : decode cX9_spellings 30 = .ok (.lastore, 1) := by decide +kernel
theorem dX9_spellings_31 : decode cX9_spellings 31 = .ok (.aload_n 0, 1) := by decide +kernel
theorem dX9_spellings_32 : decode cX9_spellings 32 = .ok (.getfield 157, 3) := by decide +kernel
theorem dX9_spellings_35 : decode cX9_spellings 35 = .ok (.iconst 1, 1) := by decide +kernel
theorem dX9_spellings_36 : decode cX9_spellings 36 = .ok (.isub, 1) := by decide +kernel
theorem dX9_spellings_37 : decode cX9_spellings 37 = .ok (.istore_n 2, 1) := by decide +kernel
theorem dX9_spellings_38 : decode cX9_spellings 38 = .ok (.iload_n 2, 1) := by decide +kernel
theorem dX9_spellings_39 : decode cX9_spellings 39 = .ok (.ifCond .lt 97, 3) := by decide +kernel
theorem dX9_spellings_42 : decode cX9_spellings 42 = .ok (.aload_n 0, 1) := by decide +kernel
theorem dX9_spellings_43 : decode cX9_spellings 43 = .ok (.getfield 55, 3) := by decide +kernel
theorem dX9_spellings_46 : decode cX9_spellings 46 = .ok (.iload_n 2, 1) := by decide +kernel
theorem dX9_spellings_47 : decode cX9_spellings 47 = .ok (.lconst 0, 1) := by decide +kernel
theorem dX9_spellings_48 : decode cX9_spellings 48 = .ok (.lastore, 1) := by decide +kernel
theorem dX9_spellings_49 : decode cX9_spellings 49 = .ok (.iconst 0, 1) := by decide +kernel
theorem dX9_spellings_50 : decode cX9_spellings 50 = .ok (.istore_n 3, 1) := by decide +kernel
theorem dX9_spellings_51 : decode cX9_spellings 51 = .ok (.iload_n 3, 1) := by decide +kernel
theorem dX9_spellings_52 : decode cX9_spellings 52 = .ok (.aload_n 0, 1) := by decide +kernel
theorem dX9_spellings_53 : decode cX9_spellings 53 = .ok (.getfield 62, 3) := by decide +kernel
theorem dX9_spellings_56 : decode cX9_spellings 56 = .ok (.if_icmp .ge 74, 3) := by decide +kernel
theorem dX9_spellings_59 : decode cX9_spellings 59 = .ok (.aload_n 0, 1) := by decide +kernel
theorem dX9_spellings_60 : decode cX9_spellings 60 = .ok (.iload_n 3, 1) := by decide +kernel
theorem dX9_spellings_61 : decode cX9_spellings 61 = .ok (.iload_n 2, 1) := by decide +kernel
theorem dX9_spellings_62 : decode cX9_spellings 62 = .ok (.invokevirtual 219, 3) := by decide +kernel
theorem dX9_spellings_65 : decode cX9_spellings 65 = .ok (.ifCond .eq 19, 3) := by decide +kernel
theorem dX9_spellings_68 : decode cX9_spellings 68 = .ok (.aload_n 0, 1) := by decide +kernel
theorem dX9_spellings_69 : decode cX9_spellings 69 = .ok (.getfield 55, 3) := by decide +kernel
theorem dX9_spellings_72 : decode cX9_spellings 72 = .ok (.iload_n 2, 1) := by decide +kernel
theorem dX9_spellings_73 : decode cX9_spellings 73 = .ok (.aload_n 0, 1) := by decide +kernel
theorem dX9_spellings_74 : decode cX9_spellings 74 = .ok (.getfield 22, 3) := by decide +kernel
theorem dX9_spellings_77 : decode cX9_spellings 77 = .ok (.iload_n 3, 1) := by decide +kernel
theorem dX9_spellings_78 : decode cX9_spellings 78 = .ok (.iaload, 1) := by decide +kernel
theorem dX9_spellings_79 : decode cX9_spellings 79 = .ok (.iadd, 1) := by decide +kernel
theorem dX9_spellings_80 : decode cX9_spellings 80 = .ok (.laload, 1) := by decide +kernel
theorem dX9_spellings_81 : decode cX9_spellings 81 = .ok (.goto 4, 3) := by decide +kernel
theorem dX9_spellings_84 : decode cX9_spellings 84 = .ok (.lconst 0, 1) := by decide +kernel
theorem dX9_spellings_85 : decode cX9_spellings 85 = .ok (.lstore 4, 2) := by decide +kernel
theorem dX9_spellings_87 : decode cX9_spellings 87 = .ok (.aload_n 0, 1) := by decide +kernel
theorem dX9_spellings_88 : decode cX9_spellings 88 = .ok (.getfield 55, 3) := by decide +kernel
theorem dX9_spellings_91 : decode cX9_spellings 91 = .ok (.iload_n 2, 1) := by decide +kernel
theorem dX9_spellings_92 : decode cX9_spellings 92 = .ok (.aload_n 0, 1) := by decide +kernel
theorem dX9_spellings_93 : decode cX9_spellings 93 = .ok (.getfield 55, 3) := by decide +kernel
theorem dX9_spellings_96 : decode cX9_spellings 96 = .ok (.iload_n 2, 1) := by decide +kernel
theorem dX9_spellings_97 : decode cX9_spellings 97 = .ok (.laload, 1) := by decide +kernel
theorem dX9_spellings_98 : decode cX9_spellings 98 = .ok (.lload 4, 2) := by decide +kernel
theorem dX9_spellings_100 : decode cX9_spellings 100 = .ok (.ladd, 1) := by decide +kernel
theorem dX9_spellings_101 : decode cX9_spellings 101 = .ok (.ldc2_w 222, 3) := by decide +kernel
theorem dX9_spellings_104 : decode cX9_spellings 104 = .ok (.lcmp, 1) := by decide +kernel
theorem dX9_spellings_105 : decode cX9_spellings 105 = .ok (.ifCond .le 9, 3) := by decide +kernel
theorem dX9_spellings_108 : decode cX9_spellings 108 = .ok (.ldc2_w 222, 3) := by decide +kernel
theorem dX9_spellings_111 : decode cX9_spellings 111 = .ok (.goto 12, 3) := by decide +kernel
theorem dX9_spellings_114 : decode cX9_spellings 114 = .ok (.aload_n 0, 1) := by decide +kernel
theorem dX9_spellings_115 : decode cX9_spellings 115 = .ok (.getfield 55, 3) := by decide +kernel
theorem dX9_spellings_118 : decode cX9_spellings 118 = .ok (.iload_n 2, 1) := by decide +kernel
theorem dX9_spellings_119 : decode cX9_spellings 119 = .ok (.laload, 1) := by decide +kernel
theorem dX9_spellings_120 : decode cX9_spellings 120 = .ok (.lload 4, 2) := by decide +kernel
theorem dX9_spellings_122 : decode cX9_spellings 122 = .ok (.ladd, 1) := by decide +kernel
theorem dX9_spellings_123 : decode cX9_spellings 123 = .ok (.lastore, 1) := by decide +kernel
theorem dX9_spellings_124 : decode cX9_spellings 124 = .ok (.iinc 3 1, 3) := by decide +kernel
theorem dX9_spellings_127 : decode cX9_spellings 127 = .ok (.goto (-76), 3) := by decide +kernel
theorem dX9_spellings_130 : decode cX9_spellings 130 = .ok (.iinc 2 (-1), 3) := by decide +kernel
theorem dX9_spellings_133 : decode cX9_spellings 133 = .ok (.goto (-95), 3) := by decide +kernel
theorem dX9_spellings_136 : decode cX9_spellings 136 = .ok (.aload_n 0, 1) := by decide +kernel
theorem dX9_spellings_137 : decode cX9_spellings 137 = .ok (.getfield 55, 3) := by decide +kernel
theorem dX9_spellings_140 : decode cX9_spellings 140 = .ok (.iconst 0, 1) := by decide +kernel
theorem dX9_spellings_141 : decode cX9_spellings 141 = .ok (.laload, 1) := by decide +kernel
theorem dX9_spellings_142 : decode cX9_spellings 142 = .ok (.lreturn, 1) := by decide +kernel
theorem dX9_pipes_0 : decode cX9_pipes 0 = .ok (.iload_n 1, 1) := by decide +kernel
theorem dX9_pipes_1 : decode cX9_pipes 1 = .ok (.invokestatic 190, 3) := by decide +kernel
theorem dX9_pipes_4 : decode cX9_pipes 4 = .ok (.ifCond .ne 5, 3) := by decide +kernel
theorem dX9_pipes_7 : decode cX9_pipes 7 = .ok (.iconst (-1), 1) := by decide +kernel
theorem dX9_pipes_8 : decode cX9_pipes 8 = .ok (.ireturn, 1) := by decide +kernel
theorem dX9_pipes_9 : decode cX9_pipes 9 = .ok (.aload_n 0, 1) := by decide +kernel
theorem dX9_pipes_10 : decode cX9_pipes 10 = .ok (.getfield 141, 3) := by decide +kernel
theorem dX9_pipes_13 : decode cX9_pipes 13 = .ok (.iconst 4, 1) := by decide +kernel
theorem dX9_pipes_14 : decode cX9_pipes 14 = .ok (.if_icmp .ne 6, 3) := by decide +kernel
theorem dX9_pipes_17 : decode cX9_pipes 17 = .ok (.bipush (-3), 2) := by decide +kernel
theorem dX9_pipes_19 : decode cX9_pipes 19 = .ok (.ireturn, 1) := by decide +kernel
theorem dX9_pipes_20 : decode cX9_pipes 20 = .ok (.aload_n 0, 1) := by decide +kernel
theorem dX9_pipes_21 : decode cX9_pipes 21 = .ok (.getfield 40, 3) := by decide +kernel
theorem dX9_pipes_24 : decode cX9_pipes 24 = .ok (.aload_n 0, 1) := by decide +kernel
theorem dX9_pipes_25 : decode cX9_pipes 25 = .ok (.getfield 141, 3) := by decide +kernel
theorem dX9_pipes_28 : decode cX9_pipes 28 = .ok (.iload_n 1, 1) := by decide +kernel
theorem dX9_pipes_29 : decode cX9_pipes 29 = .ok (.iastore, 1) := by decide +kernel
theorem dX9_pipes_30 : decode cX9_pipes 30 = .ok (.aload_n 0, 1) := by decide +kernel
theorem dX9_pipes_31 : decode cX9_pipes 31 = .ok (.dup, 1) := by decide +kernel
theorem dX9_pipes_32 : decode cX9_pipes 32 = .ok (.getfield 141, 3) := by decide +kernel
theorem dX9_pipes_35 : decode cX9_pipes 35 = .ok (.iconst 1, 1) := by decide +kernel
theorem dX9_pipes_36 : decode cX9_pipes 36 = .ok (.iadd, 1) := by decide +kernel
theorem dX9_pipes_37 : decode cX9_pipes 37 = .ok (.putfield 141, 3) := by decide +kernel
theorem dX9_pipes_40 : decode cX9_pipes 40 = .ok (.aload_n 0, 1) := by decide +kernel
theorem dX9_pipes_41 : decode cX9_pipes 41 = .ok (.getfield 141, 3) := by decide +kernel
theorem dX9_pipes_44 : decode cX9_pipes 44 = .ok (.ireturn, 1) := by decide +kernel
theorem dX9_unpipe_0 : decode cX9_unpipe 0 = .ok (.aload_n 0, 1) := by decide +kernel
theorem dX9_unpipe_1 : decode cX9_unpipe 1 = .ok (.getfield 141, 3) := by decide +kernel
theorem dX9_unpipe_4 : decode cX9_unpipe 4 = .ok (.istore_n 1, 1) := by decide +kernel
theorem dX9_unpipe_5 : decode cX9_unpipe 5 = .ok (.aload_n 0, 1) := by decide +kernel
theorem dX9_unpipe_6 : decode cX9_unpipe 6 = .ok (.iconst 0, 1) := by decide +kernel
theorem dX9_unpipe_7 : decode cX9_unpipe 7 = .ok (.putfield 141, 3) := by decide +kernel
theorem dX9_unpipe_10 : decode cX9_unpipe 10 = .ok (.iload_n 1, 1) := by decide +kernel
theorem dX9_unpipe_11 : decode cX9_unpipe 11 = .ok (.ireturn, 1) := by decide +kernel
theorem dX9_goesThrough_0 : decode cX9_goesThrough 0 = .ok (.iconst 0, 1) := by decide +kernel
theorem dX9_goesThrough_1 : decode cX9_goesThrough 1 = .ok (.istore_n 1, 1) := by decide +kernel
theorem dX9_goesThrough_2 : decode cX9_goesThrough 2 = .ok (.iload_n 1, 1) := by decide +kernel
theorem dX9_goesThrough_3 : decode cX9_goesThrough 3 = .ok (.aload_n 0, 1) := by decide +kernel
theorem dX9_goesThrough_4 : decode cX9_goesThrough 4 = .ok (.getfield 141, 3) := by decide +kernel
theorem dX9_goesThrough_7 : decode cX9_goesThrough 7 = .ok (.if_icmp .ge 19, 3) := by decide +kernel
theorem dX9_goesThrough_10 : decode cX9_goesThrough 10 = .ok (.aload_n 0, 1) := by decide +kernel
theorem dX9_goesThrough_11 : decode cX9_goesThrough 11 = .ok (.aload_n 0, 1) := by decide +kernel
theorem dX9_goesThrough_12 : decode cX9_goesThrough 12 = .ok (.getfield 40, 3) := by decide +kernel
theorem dX9_goesThrough_15 : decode cX9_goesThrough 15 = .ok (.iload_n 1, 1) := by decide +kernel
theorem dX9_goesThrough_16 : decode cX9_goesThrough 16 = .ok (.iaload, 1) := by decide +kernel
theorem dX9_goesThrough_17 : decode cX9_goesThrough 17 = .ok (.invokevirtual 196, 3) := by decide +kernel
theorem dX9_goesThrough_20 : decode cX9_goesThrough 20 = .ok (.iinc 1 1, 3) := by decide +kernel
theorem dX9_goesThrough_23 : decode cX9_goesThrough 23 = .ok (.goto (-21), 3) := by decide +kernel
theorem dX9_goesThrough_26 : decode cX9_goesThrough 26 = .ok (.return_, 1) := by decide +kernel
theorem dX9_piped_0 : decode cX9_piped 0 = .ok (.iload_n 1, 1) := by decide +kernel
theorem dX9_piped_1 : decode cX9_piped 1 = .ok (.invokestatic 147, 3) := by decide +kernel
theorem dX9_piped_4 : decode cX9_piped 4 = .ok (.ifCond .ne 5, 3) := by decide +kernel
theorem dX9_piped_7 : decode cX9_piped 7 = .ok (.iconst (-1), 1) := by decide +kernel
theorem dX9_piped_8 : decode cX9_piped 8 = .ok (.ireturn, 1) := by decide +kernel
theorem dX9_piped_9 : decode cX9_piped 9 = .ok (.aload_n 0, 1) := by decide +kernel
theorem dX9_piped_10 : decode cX9_piped 10 = .ok (.iload_n 1, 1) := by decide +kernel
theorem dX9_piped_11 : decode cX9_piped 11 = .ok (.invokevirtual 193, 3) := by decide +kernel
theorem dX9_piped_14 : decode cX9_piped 14 = .ok (.aload_n 0, 1) := by decide +kernel
theorem dX9_piped_15 : decode cX9_piped 15 = .ok (.invokevirtual 224, 3) := by decide +kernel
theorem dX9_piped_18 : decode cX9_piped 18 = .ok (.aload_n 0, 1) := by decide +kernel
theorem dX9_piped_19 : decode cX9_piped 19 = .ok (.iload_n 2, 1) := by decide +kernel
theorem dX9_piped_20 : decode cX9_piped 20 = .ok (.invokevirtual 199, 3) := by decide +kernel
theorem dX9_piped_23 : decode cX9_piped 23 = .ok (.ireturn, 1) := by decide +kernel
theorem dX9_fixed_0 : decode cX9_fixed 0 = .ok (.iload_n 1, 1) := by decide +kernel
theorem dX9_fixed_1 : decode cX9_fixed 1 = .ok (.invokestatic 147, 3) := by decide +kernel
theorem dX9_fixed_4 : decode cX9_fixed 4 = .ok (.ifCond .ne 5, 3) := by decide +kernel
theorem dX9_fixed_7 : decode cX9_fixed 7 = .ok (.iconst (-1), 1) := by decide +kernel
theorem dX9_fixed_8 : decode cX9_fixed 8 = .ok (.ireturn, 1) := by decide +kernel
theorem dX9_fixed_9 : decode cX9_fixed 9 = .ok (.aload_n 0, 1) := by decide +kernel
theorem dX9_fixed_10 : decode cX9_fixed 10 = .ok (.iload_n 1, 1) := by decide +kernel
theorem dX9_fixed_11 : decode cX9_fixed 11 = .ok (.invokevirtual 193, 3) := by decide +kernel
theorem dX9_fixed_14 : decode cX9_fixed 14 = .ok (.iconst 0, 1) := by decide +kernel
theorem dX9_fixed_15 : decode cX9_fixed 15 = .ok (.istore_n 2, 1) := by decide +kernel
theorem dX9_fixed_16 : decode cX9_fixed 16 = .ok (.iload_n 2, 1) := by decide +kernel
theorem dX9_fixed_17 : decode cX9_fixed 17 = .ok (.bipush 9, 2) := by decide +kernel
theorem dX9_fixed_19 : decode cX9_fixed 19 = .ok (.if_icmp .gt 26, 3) := by decide +kernel
theorem dX9_fixed_22 : decode cX9_fixed 22 = .ok (.aload_n 0, 1) := by decide +kernel
theorem dX9_fixed_23 : decode cX9_fixed 23 = .ok (.invokevirtual 205, 3) := by decide +kernel
theorem dX9_fixed_26 : decode cX9_fixed 26 = .ok (.aload_n 0, 1) := by decide +kernel
theorem dX9_fixed_27 : decode cX9_fixed 27 = .ok (.invokevirtual 224, 3) := by decide +kernel
theorem dX9_fixed_30 : decode cX9_fixed 30 = .ok (.aload_n 0, 1) := by decide +kernel
theorem dX9_fixed_31 : decode cX9_fixed 31 = .ok (.invokevirtual 208, 3) := by decide +kernel
theorem dX9_fixed_34 : decode cX9_fixed 34 = .ok (.ifCond .eq 5, 3) := by decide +kernel
theorem dX9_fixed_37 : decode cX9_fixed 37 = .ok (.iload_n 2, 1) := by decide +kernel
theorem dX9_fixed_38 : decode cX9_fixed 38 = .ok (.ireturn, 1) := by decide +kernel
theorem dX9_fixed_39 : decode cX9_fixed 39 = .ok (.iinc 2 1, 3) := by decide +kernel
theorem dX9_fixed_42 : decode cX9_fixed 42 = .ok (.goto (-26), 3) := by decide +kernel
theorem dX9_fixed_45 : decode cX9_fixed 45 = .ok (.bipush (-9), 2) := by decide +kernel
theorem dX9_fixed_47 : decode cX9_fixed 47 = .ok (.ireturn, 1) := by decide +kernel
theorem dX9_allMany_0 : decode cX9_allMany 0 = .ok (.aload_n 0, 1) := by decide +kernel
theorem dX9_allMany_1 : decode cX9_allMany 1 = .ok (.getfield 34, 3) := by decide +kernel
theorem dX9_allMany_4 : decode cX9_allMany 4 = .ok (.iconst 0, 1) := by decide +kernel
theorem dX9_allMany_5 : decode cX9_allMany 5 = .ok (.iaload, 1) := by decide +kernel
theorem dX9_allMany_6 : decode cX9_allMany 6 = .ok (.aload_n 0, 1) := by decide +kernel
theorem dX9_allMany_7 : decode cX9_allMany 7 = .ok (.getfield 34, 3) := by decide +kernel
theorem dX9_allMany_10 : decode cX9_allMany 10 = .ok (.iconst 1, 1) := by decide +kernel
theorem dX9_allMany_11 : decode cX9_allMany 11 = .ok (.iaload, 1) := by decide +kernel
theorem dX9_allMany_12 : decode cX9_allMany 12 = .ok (.iadd, 1) := by decide +kernel
theorem dX9_allMany_13 : decode cX9_allMany 13 = .ok (.aload_n 0, 1) := by decide +kernel
theorem dX9_allMany_14 : decode cX9_allMany 14 = .ok (.getfield 34, 3) := by decide +kernel
theorem dX9_allMany_17 : decode cX9_allMany 17 = .ok (.iconst 2, 1) := by decide +kernel
theorem dX9_allMany_18 : decode cX9_allMany 18 = .ok (.iaload, 1) := by decide +kernel
theorem dX9_allMany_19 : decode cX9_allMany 19 = .ok (.iadd, 1) := by decide +kernel
theorem dX9_allMany_20 : decode cX9_allMany 20 = .ok (.aload_n 0, 1) := by decide +kernel
theorem dX9_allMany_21 : decode cX9_allMany 21 = .ok (.getfield 34, 3) := by decide +kernel
theorem dX9_allMany_24 : decode cX9_allMany 24 = .ok (.iconst 3, 1) := by decide +kernel
theorem dX9_allMany_25 : decode cX9_allMany 25 = .ok (.iaload, 1) := by decide +kernel
theorem dX9_allMany_26 : decode cX9_allMany 26 = .ok (.iadd, 1) := by decide +kernel
theorem dX9_allMany_27 : decode cX9_allMany 27 = .ok (.ireturn, 1) := by decide +kernel
theorem dX9_keep_0 : decode cX9_keep 0 = .ok (.iload_n 1, 1) := by decide +kernel
theorem dX9_keep_1 : decode cX9_keep 1 = .ok (.iconst 0, 1) := by decide +kernel
theorem dX9_keep_2 : decode cX9_keep 2 = .ok (.iconst 1, 1) := by decide +kernel
theorem dX9_keep_3 : decode cX9_keep 3 = .ok (.invokestatic 66, 3) := by decide +kernel
theorem dX9_keep_6 : decode cX9_keep 6 = .ok (.ifCond .ne 5, 3) := by decide +kernel
theorem dX9_keep_9 : decode cX9_keep 9 = .ok (.iconst (-1), 1) := by decide +kernel
theorem dX9_keep_10 : decode cX9_keep 10 = .ok (.ireturn, 1) := by decide +kernel
theorem dX9_keep_11 : decode cX9_keep 11 = .ok (.bipush 74, 2) := by decide +kernel
theorem dX9_keep_13 : decode cX9_keep 13 = .ok (.iload_n 1, 1) := by decide +kernel
theorem dX9_keep_14 : decode cX9_keep 14 = .ok (.imul, 1) := by decide +kernel
theorem dX9_keep_15 : decode cX9_keep 15 = .ok (.istore_n 2, 1) := by decide +kernel
theorem dX9_keep_16 : decode cX9_keep 16 = .ok (.aload_n 0, 1) := by decide +kernel
theorem dX9_keep_17 : decode cX9_keep 17 = .ok (.getfield 59, 3) := by decide +kernel
theorem dX9_keep_20 : decode cX9_keep 20 = .ok (.iload_n 2, 1) := by decide +kernel
theorem dX9_keep_21 : decode cX9_keep 21 = .ok (.iconst 1, 1) := by decide +kernel
theorem dX9_keep_22 : decode cX9_keep 22 = .ok (.iastore, 1) := by decide +kernel
theorem dX9_keep_23 : decode cX9_keep 23 = .ok (.aload_n 0, 1) := by decide +kernel
theorem dX9_keep_24 : decode cX9_keep 24 = .ok (.getfield 59, 3) := by decide +kernel
theorem dX9_keep_27 : decode cX9_keep 27 = .ok (.iload_n 2, 1) := by decide +kernel
theorem dX9_keep_28 : decode cX9_keep 28 = .ok (.iconst 1, 1) := by decide +kernel
theorem dX9_keep_29 : decode cX9_keep 29 = .ok (.iadd, 1) := by decide +kernel
theorem dX9_keep_30 : decode cX9_keep 30 = .ok (.aload_n 0, 1) := by decide +kernel
theorem dX9_keep_31 : decode cX9_keep 31 = .ok (.getfield 141, 3) := by decide +kernel
theorem dX9_keep_34 : decode cX9_keep 34 = .ok (.iastore, 1) := by decide +kernel
theorem dX9_keep_35 : decode cX9_keep 35 = .ok (.iconst 0, 1) := by decide +kernel
theorem dX9_keep_36 : decode cX9_keep 36 = .ok (.istore_n 3, 1) := by decide +kernel
theorem dX9_keep_37 : decode cX9_keep 37 = .ok (.iload_n 3, 1) := by decide +kernel
theorem dX9_keep_38 : decode cX9_keep 38 = .ok (.iconst 4, 1) := by decide +kernel
theorem dX9_keep_39 : decode cX9_keep 39 = .ok (.if_icmp .ge 42, 3) := by decide +kernel
theorem dX9_keep_42 : decode cX9_keep 42 = .ok (.aload_n 0, 1) := by decide +kernel
theorem dX9_keep_43 : decode cX9_keep 43 = .ok (.getfield 59, 3) := by decide +kernel
theorem dX9_keep_46 : decode cX9_keep 46 = .ok (.iload_n 2, 1) := by decide +kernel
theorem dX9_keep_47 : decode cX9_keep 47 = .ok (.iconst 2, 1) := by decide +kernel
theorem dX9_keep_48 : decode cX9_keep 48 = .ok (.iadd, 1) := by decide +kernel
theorem dX9_keep_49 : decode cX9_keep 49 = .ok (.iload_n 3, 1) := by decide +kernel
theorem dX9_keep_50 : decode cX9_keep 50 = .ok (.iadd, 1) := by decide +kernel
theorem dX9_keep_51 : decode cX9_keep 51 = .ok (.aload_n 0, 1) := by decide +kernel
theorem dX9_keep_52 : decode cX9_keep 52 = .ok (.getfield 40, 3) := by decide +kernel
theorem dX9_keep_55 : decode cX9_keep 55 = .ok (.iload_n 3, 1) := by decide +kernel
theorem dX9_keep_56 : decode cX9_keep 56 = .ok (.iaload, 1) := by decide +kernel
theorem dX9_keep_57 : decode cX9_keep 57 = .ok (.iastore, 1) := by decide +kernel
theorem dX9_keep_58 : decode cX9_keep 58 = .ok (.aload_n 0, 1) := by decide +kernel
theorem dX9_keep_59 : decode cX9_keep 59 = .ok (.getfield 59, 3) := by decide +kernel
theorem dX9_keep_62 : decode cX9_keep 62 = .ok (.iload_n 2, 1) := by decide +kernel
theorem dX9_keep_63 : decode cX9_keep 63 = .ok (.bipush 6, 2) := by decide +kernel
theorem dX9_keep_65 : decode cX9_keep 65 = .ok (.iadd, 1) := by decide +kernel
theorem dX9_keep_66 : decode cX9_keep 66 = .ok (.iload_n 3, 1) := by decide +kernel
theorem dX9_keep_67 : decode cX9_keep 67 = .ok (.iadd, 1) := by decide +kernel
theorem dX9_keep_68 : decode cX9_keep 68 = .ok (.aload_n 0, 1) := by decide +kernel
theorem dX9_keep_69 : decode cX9_keep 69 = .ok (.getfield 34, 3) := by decide +kernel
theorem dX9_keep_72 : decode cX9_keep 72 = .ok (.iload_n 3, 1) := by decide +kernel
theorem dX9_keep_73 : decode cX9_keep 73 = .ok (.iaload, 1) := by decide +kernel
theorem dX9_keep_74 : decode cX9_keep 74 = .ok (.iastore, 1) := by decide +kernel
theorem dX9_keep_75 : decode cX9_keep 75 = .ok (.iinc 3 1, 3) := by decide +kernel
theorem dX9_keep_78 : decode cX9_keep 78 = .ok (.goto (-41), 3) := by decide +kernel
theorem dX9_keep_81 : decode cX9_keep 81 = .ok (.iconst 0, 1) := by decide +kernel
theorem dX9_keep_82 : decode cX9_keep 82 = .ok (.istore_n 3, 1) := by decide +kernel
theorem dX9_keep_83 : decode cX9_keep 83 = .ok (.iload_n 3, 1) := by decide +kernel
theorem dX9_keep_84 : decode cX9_keep 84 = .ok (.bipush 64, 2) := by decide +kernel
theorem dX9_keep_86 : decode cX9_keep 86 = .ok (.if_icmp .ge 26, 3) := by decide +kernel
theorem dX9_keep_89 : decode cX9_keep 89 = .ok (.aload_n 0, 1) := by decide +kernel
theorem dX9_keep_90 : decode cX9_keep 90 = .ok (.getfield 59, 3) := by decide +kernel
theorem dX9_keep_93 : decode cX9_keep 93 = .ok (.iload_n 2, 1) := by decide +kernel
theorem dX9_keep_94 : decode cX9_keep 94 = .ok (.bipush 10, 2) := by decide +kernel
theorem dX9_keep_96 : decode cX9_keep 96 = .ok (.iadd, 1) := by decide +kernel
theorem dX9_keep_97 : decode cX9_keep 97 = .ok (.iload_n 3, 1) := by decide +kernel
theorem dX9_keep_98 : decode cX9_keep 98 = .ok (.iadd, 1) := by decide +kernel
theorem dX9_keep_99 : decode cX9_keep 99 = .ok (.aload_n 0, 1) := by decide +kernel
theorem dX9_keep_100 : decode cX9_keep 100 = .ok (.getfield 37, 3) := by decide +kernel
theorem dX9_keep_103 : decode cX9_keep 103 = .ok (.iload_n 3, 1) := by decide +kernel
theorem dX9_keep_104 : decode cX9_keep 104 = .ok (.iaload, 1) := by decide +kernel
theorem dX9_keep_105 : decode cX9_keep 105 = .ok (.iastore, 1) := by decide +kernel
theorem dX9_keep_106 : decode cX9_keep 106 = .ok (.iinc 3 1, 3) := by decide +kernel
theorem dX9_keep_109 : decode cX9_keep 109 = .ok (.goto (-26), 3) := by decide +kernel
theorem dX9_keep_112 : decode cX9_keep 112 = .ok (.aload_n 0, 1) := by decide +kernel
theorem dX9_keep_113 : decode cX9_keep 113 = .ok (.invokevirtual 227, 3) := by decide +kernel
theorem dX9_keep_116 : decode cX9_keep 116 = .ok (.ireturn, 1) := by decide +kernel
theorem dX9_back_0 : decode cX9_back 0 = .ok (.iload_n 1, 1) := by decide +kernel
theorem dX9_back_1 : decode cX9_back 1 = .ok (.iconst 0, 1) := by decide +kernel
theorem dX9_back_2 : decode cX9_back 2 = .ok (.iconst 1, 1) := by decide +kernel
theorem dX9_back_3 : decode cX9_back 3 = .ok (.invokestatic 66, 3) := by decide +kernel
theorem dX9_back_6 : decode cX9_back 6 = .ok (.ifCond .ne 5, 3) := by decide +kernel
theorem dX9_back_9 : decode cX9_back 9 = .ok (.iconst (-1), 1) := by decide +kernel
theorem dX9_back_10 : decode cX9_back 10 = .ok (.ireturn, 1) := by decide +kernel
theorem dX9_back_11 : decode cX9_back 11 = .ok (.bipush 74, 2) := by decide +kernel
theorem dX9_back_13 : decode cX9_back 13 = .ok (.iload_n 1, 1) := by decide +kernel
theorem dX9_back_14 : decode cX9_back 14 = .ok (.imul, 1) := by decide +kernel
theorem dX9_back_15 : decode cX9_back 15 = .ok (.istore_n 2, 1) := by decide +kernel
theorem dX9_back_16 : decode cX9_back 16 = .ok (.aload_n 0, 1) := by decide +kernel
theorem dX9_back_17 : decode cX9_back 17 = .ok (.getfield 59, 3) := by decide +kernel
theorem dX9_back_20 : decode cX9_back 20 = .ok (.iload_n 2, 1) := by decide +kernel
theorem dX9_back_21 : decode cX9_back 21 = .ok (.iaload, 1) := by decide +kernel
theorem dX9_back_22 : decode cX9_back 22 = .ok (.ifCond .ne 6, 3) := by decide +kernel
theorem dX9_back_25 : decode cX9_back 25 = .ok (.bipush (-2), 2) := by decide +kernel
theorem dX9_back_27 : decode cX9_back 27 = .ok (.ireturn, 1) := by decide +kernel
theorem dX9_back_28 : decode cX9_back 28 = .ok (.aload_n 0, 1) := by decide +kernel
theorem dX9_back_29 : decode cX9_back 29 = .ok (.aload_n 0, 1) := by decide +kernel
theorem dX9_back_30 : decode cX9_back 30 = .ok (.getfield 59, 3) := by decide +kernel
theorem dX9_back_33 : decode cX9_back 33 = .ok (.iload_n 2, 1) := by decide +kernel
theorem dX9_back_34 : decode cX9_back 34 = .ok (.iconst 1, 1) := by decide +kernel
theorem dX9_back_35 : decode cX9_back 35 = .ok (.iadd, 1) := by decide +kernel
theorem dX9_back_36 : decode cX9_back 36 = .ok (.iaload, 1) := by decide +kernel
theorem dX9_back_37 : decode cX9_back 37 = .ok (.putfield 141, 3) := by decide +kernel
theorem dX9_back_40 : decode cX9_back 40 = .ok (.iconst 0, 1) := by decide +kernel
theorem dX9_back_41 : decode cX9_back 41 = .ok (.istore_n 3, 1) := by decide +kernel
theorem dX9_back_42 : decode cX9_back 42 = .ok (.iload_n 3, 1) := by decide +kernel
theorem dX9_back_43 : decode cX9_back 43 = .ok (.iconst 4, 1) := by decide +kernel
theorem dX9_back_44 : decode cX9_back 44 = .ok (.if_icmp .ge 42, 3) := by decide +kernel
theorem dX9_back_47 : decode cX9_back 47 = .ok (.aload_n 0, 1) := by decide +kernel
theorem dX9_back_48 : decode cX9_back 48 = .ok (.getfield 40, 3) := by decide +kernel
theorem dX9_back_51 : decode cX9_back 51 = .ok (.iload_n 3, 1) := by decide +kernel
theorem dX9_back_52 : decode cX9_back 52 = .ok (.aload_n 0, 1) := by decide +kernel
theorem dX9_back_53 : decode cX9_back 53 = .ok (.getfield 59, 3) := by decide +kernel
theorem dX9_back_56 : decode cX9_back 56 = .ok (.iload_n 2, 1) := by decide +kernel
theorem dX9_back_57 : decode cX9_back 57 = .ok (.iconst 2, 1) := by decide +kernel
theorem dX9_back_58 : decode cX9_back 58 = .ok (.iadd, 1) := by decide +kernel
theorem dX9_back_59 : decode cX9_back 59 = .ok (.iload_n 3, 1) := by decide +kernel
theorem dX9_back_60 : decode cX9_back 60 = .ok (.iadd, 1) := by decide +kernel
theorem dX9_back_61 : decode cX9_back 61 = .ok (.iaload, 1) := by decide +kernel
theorem dX9_back_62 : decode cX9_back 62 = .ok (.iastore, 1) := by decide +kernel
theorem dX9_back_63 : decode cX9_back 63 = .ok (.aload_n 0, 1) := by decide +kernel
theorem dX9_back_64 : decode cX9_back 64 = .ok (.getfield 34, 3) := by decide +kernel
theorem dX9_back_67 : decode cX9_back 67 = .ok (.iload_n 3, 1) := by decide +kernel
theorem dX9_back_68 : decode cX9_back 68 = .ok (.aload_n 0, 1) := by decide +kernel
theorem dX9_back_69 : decode cX9_back 69 = .ok (.getfield 59, 3) := by decide +kernel
theorem dX9_back_72 : decode cX9_back 72 = .ok (.iload_n 2, 1) := by decide +kernel
theorem dX9_back_73 : decode cX9_back 73 = .ok (.bipush 6, 2) := by decide +kernel
theorem dX9_back_75 : decode cX9_back 75 = .ok (.iadd, 1) := by decide +kernel
theorem dX9_back_76 : decode cX9_back 76 = .ok (.iload_n 3, 1) := by decide +kernel
theorem dX9_back_77 : decode cX9_back 77 = .ok (.iadd, 1) := by decide +kernel
theorem dX9_back_78 : decode cX9_back 78 = .ok (.iaload, 1) := by decide +kernel
theorem dX9_back_79 : decode cX9_back 79 = .ok (.iastore, 1) := by decide +kernel
theorem dX9_back_80 : decode cX9_back 80 = .ok (.iinc 3 1, 3) := by decide +kernel
theorem dX9_back_83 : decode cX9_back 83 = .ok (.goto (-41), 3) := by decide +kernel
theorem dX9_back_86 : decode cX9_back 86 = .ok (.iconst 0, 1) := by decide +kernel
theorem dX9_back_87 : decode cX9_back 87 = .ok (.istore_n 3, 1) := by decide +kernel
theorem dX9_back_88 : decode cX9_back 88 = .ok (.iload_n 3, 1) := by decide +kernel
theorem dX9_back_89 : decode cX9_back 89 = .ok (.bipush 64, 2) := by decide +kernel
theorem dX9_back_91 : decode cX9_back 91 = .ok (.if_icmp .ge 26, 3) := by decide +kernel
theorem dX9_back_94 : decode cX9_back 94 = .ok (.aload_n 0, 1) := by decide +kernel
theorem dX9_back_95 : decode cX9_back 95 = .ok (.getfield 37, 3) := by decide +kernel
theorem dX9_back_98 : decode cX9_back 98 = .ok (.iload_n 3, 1) := by decide +kernel
theorem dX9_back_99 : decode cX9_back 99 = .ok (.aload_n 0, 1) := by decide +kernel
theorem dX9_back_100 : decode cX9_back 100 = .ok (.getfield 59, 3) := by decide +kernel
theorem dX9_back_103 : decode cX9_back 103 = .ok (.iload_n 2, 1) := by decide +kernel
theorem dX9_back_104 : decode cX9_back 104 = .ok (.bipush 10, 2) := by decide +kernel
theorem dX9_back_106 : decode cX9_back 106 = .ok (.iadd, 1) := by decide +kernel
theorem dX9_back_107 : decode cX9_back 107 = .ok (.iload_n 3, 1) := by decide +kernel
theorem dX9_back_108 : decode cX9_back 108 = .ok (.iadd, 1) := by decide +kernel
theorem dX9_back_109 : decode cX9_back 109 = .ok (.iaload, 1) := by decide +kernel
theorem dX9_back_110 : decode cX9_back 110 = .ok (.iastore, 1) := by decide +kernel
theorem dX9_back_111 : decode cX9_back 111 = .ok (.iinc 3 1, 3) := by decide +kernel
theorem dX9_back_114 : decode cX9_back 114 = .ok (.goto (-26), 3) := by decide +kernel
theorem dX9_back_117 : decode cX9_back 117 = .ok (.aload_n 0, 1) := by decide +kernel
theorem dX9_back_118 : decode cX9_back 118 = .ok (.iconst 0, 1) := by decide +kernel
theorem dX9_back_119 : decode cX9_back 119 = .ok (.putfield 144, 3) := by decide +kernel
theorem dX9_back_122 : decode cX9_back 122 = .ok (.aload_n 0, 1) := by decide +kernel
theorem dX9_back_123 : decode cX9_back 123 = .ok (.invokevirtual 227, 3) := by decide +kernel
theorem dX9_back_126 : decode cX9_back 126 = .ok (.ireturn, 1) := by decide +kernel
theorem dX9_marks_0 : decode cX9_marks 0 = .ok (.iconst 0, 1) := by decide +kernel
theorem dX9_marks_1 : decode cX9_marks 1 = .ok (.istore_n 1, 1) := by decide +kernel
theorem dX9_marks_2 : decode cX9_marks 2 = .ok (.iconst 0, 1) := by decide +kernel
theorem dX9_marks_3 : decode cX9_marks 3 = .ok (.istore_n 2, 1) := by decide +kernel
theorem dX9_marks_4 : decode cX9_marks 4 = .ok (.iload_n 2, 1) := by decide +kernel
theorem dX9_marks_5 : decode cX9_marks 5 = .ok (.aload_n 0, 1) := by decide +kernel
theorem dX9_marks_6 : decode cX9_marks 6 = .ok (.getfield 62, 3) := by decide +kernel
theorem dX9_marks_9 : decode cX9_marks 9 = .ok (.if_icmp .ge 26, 3) := by decide +kernel
theorem dX9_marks_12 : decode cX9_marks 12 = .ok (.iload_n 1, 1) := by decide +kernel
theorem dX9_marks_13 : decode cX9_marks 13 = .ok (.aload_n 0, 1) := by decide +kernel
theorem dX9_marks_14 : decode cX9_marks 14 = .ok (.getfield 13, 3) := by decide +kernel
theorem dX9_marks_17 : decode cX9_marks 17 = .ok (.iload_n 2, 1) := by decide +kernel
theorem dX9_marks_18 : decode cX9_marks 18 = .ok (.iaload, 1) := by decide +kernel
theorem dX9_marks_19 : decode cX9_marks 19 = .ok (.ifCond .le 7, 3) := by decide +kernel
theorem dX9_marks_22 : decode cX9_marks 22 = .ok (.iconst 1, 1) := by decide +kernel
theorem dX9_marks_23 : decode cX9_marks 23 = .ok (.goto 4, 3) := by decide +kernel
theorem dX9_marks_26 : decode cX9_marks 26 = .ok (.iconst 0, 1) := by decide +kernel
theorem dX9_marks_27 : decode cX9_marks 27 = .ok (.iadd, 1) := by decide +kernel
theorem dX9_marks_28 : decode cX9_marks 28 = .ok (.istore_n 1, 1) := by decide +kernel
theorem dX9_marks_29 : decode cX9_marks 29 = .ok (.iinc 2 1, 3) := by decide +kernel
theorem dX9_marks_32 : decode cX9_marks 32 = .ok (.goto (-28), 3) := by decide +kernel
theorem dX9_marks_35 : decode cX9_marks 35 = .ok (.iload_n 1, 1) := by decide +kernel
theorem dX9_marks_36 : decode cX9_marks 36 = .ok (.ireturn, 1) := by decide +kernel
theorem dX9_count_0 : decode cX9_count 0 = .ok (.iload_n 1, 1) := by decide +kernel
theorem dX9_count_1 : decode cX9_count 1 = .ok (.iconst 0, 1) := by decide +kernel
theorem dX9_count_2 : decode cX9_count 2 = .ok (.bipush 7, 2) := by decide +kernel
theorem dX9_count_4 : decode cX9_count 4 = .ok (.invokestatic 66, 3) := by decide +kernel
theorem dX9_count_7 : decode cX9_count 7 = .ok (.ifCond .ne 5, 3) := by decide +kernel
theorem dX9_count_10 : decode cX9_count 10 = .ok (.iconst (-1), 1) := by decide +kernel
theorem dX9_count_11 : decode cX9_count 11 = .ok (.ireturn, 1) := by decide +kernel
theorem dX9_count_12 : decode cX9_count 12 = .ok (.iload_n 1, 1) := by decide +kernel
theorem dX9_count_13 : decode cX9_count 13 = .ok (.tableswitch 81 0 6 #[43, 48, 53, 59, 65, 71, 76], 43) := by decide +kernel
theorem dX9_count_56 : decode cX9_count 56 = .ok (.aload_n 0, 1) := by decide +kernel
theorem dX9_count_57 : decode cX9_count 57 = .ok (.getfield 62, 3) := by decide +kernel
theorem dX9_count_60 : decode cX9_count 60 = .ok (.ireturn, 1) := by decide +kernel
theorem dX9_count_61 : decode cX9_count 61 = .ok (.aload_n 0, 1) := by decide +kernel
theorem dX9_count_62 : decode cX9_count 62 = .ok (.invokevirtual 230, 3) := by decide +kernel
theorem dX9_count_65 : decode cX9_count 65 = .ok (.ireturn, 1) := by decide +kernel
theorem dX9_count_66 : decode cX9_count 66 = .ok (.aload_n 0, 1) := by decide +kernel
theorem dX9_count_67 : decode cX9_count 67 = .ok (.iconst 1, 1) := by decide +kernel
theorem dX9_count_68 : decode cX9_count 68 = .ok (.invokevirtual 116, 3) := by decide +kernel
theorem dX9_count_71 : decode cX9_count 71 = .ok (.ireturn, 1) := by decide +kernel
theorem dX9_count_72 : decode cX9_count 72 = .ok (.aload_n 0, 1) := by decide +kernel
theorem dX9_count_73 : decode cX9_count 73 = .ok (.iconst 2, 1) := by decide +kernel
theorem dX9_count_74 : decode cX9_count 74 = .ok (.invokevirtual 116, 3) := by decide +kernel
theorem dX9_count_77 : decode cX9_count 77 = .ok (.ireturn, 1) := by decide +kernel
theorem dX9_count_78 : decode cX9_count 78 = .ok (.aload_n 0, 1) := by decide +kernel
theorem dX9_count_79 : decode cX9_count 79 = .ok (.iconst 3, 1) := by decide +kernel
theorem dX9_count_80 : decode cX9_count 80 = .ok (.invokevirtual 116, 3) := by decide +kernel
theorem dX9_count_83 : decode cX9_count 83 = .ok (.ireturn, 1) := by decide +kernel
theorem dX9_count_84 : decode cX9_count 84 = .ok (.aload_n 0, 1) := by decide +kernel
theorem dX9_count_85 : decode cX9_count 85 = .ok (.getfield 141, 3) := by decide +kernel
theorem dX9_count_88 : decode cX9_count 88 = .ok (.ireturn, 1) := by decide +kernel
theorem dX9_count_89 : decode cX9_count 89 = .ok (.aload_n 0, 1) := by decide +kernel
theorem dX9_count_90 : decode cX9_count 90 = .ok (.getfield 144, 3) := by decide +kernel
theorem dX9_count_93 : decode cX9_count 93 = .ok (.ireturn, 1) := by decide +kernel
theorem dX9_count_94 : decode cX9_count 94 = .ok (.aload_n 0, 1) := by decide +kernel
theorem dX9_count_95 : decode cX9_count 95 = .ok (.getfield 82, 3) := by decide +kernel
theorem dX9_count_98 : decode cX9_count 98 = .ok (.ireturn, 1) := by decide +kernel
end
section
theorem dL_law_0 : decode cL_law 0 = .ok (.new 7, 3) := by decide +kernel
theorem dL_law_3 : decode cL_law 3 = .ok (.dup, 1) := by decide +kernel
theorem dL_law_4 : decode cL_law 4 = .ok (.invokespecial 9, 3) := by decide +kernel
theorem dL_law_7 : decode cL_law 7 = .ok (.astore_n 1, 1) := by decide +kernel
theorem dL_law_8 : decode cL_law 8 = .ok (.new 10, 3) := by decide +kernel
theorem dL_law_11 : decode cL_law 11 = .ok (.dup, 1) := by decide +kernel
theorem dL_law_12 : decode cL_law 12 = .ok (.invokespecial 12, 3) := by decide +kernel
theorem dL_law_15 : decode cL_law 15 = .ok (.astore_n 2, 1) := by decide +kernel
theorem dL_law_16 : decode cL_law 16 = .ok (.iconst 0, 1) := by decide +kernel
theorem dL_law_17 : decode cL_law 17 = .ok (.istore_n 3, 1) := by decide +kernel
theorem dL_law_18 : decode cL_law 18 = .ok (.iload_n 3, 1) := by decide +kernel
theorem dL_law_19 : decode cL_law 19 = .ok (.aload_n 0, 1) := by decide +kernel
theorem dL_law_20 : decode cL_law 20 = .ok (.arraylength, 1) := by decide +kernel
theorem dL_law_21 : decode cL_law 21 = .ok (.iconst 5, 1) := by decide +kernel
theorem dL_law_22 : decode cL_law 22 = .ok (.isub, 1) := by decide +kernel
theorem dL_law_23 : decode cL_law 23 = .ok (.if_icmp .gt 763, 3) := by decide +kernel
theorem dL_law_26 : decode cL_law 26 = .ok (.aload_n 0, 1) := by decide +kernel
theorem dL_law_27 : decode cL_law 27 = .ok (.iload_n 3, 1) := by decide +kernel
theorem dL_law_28 : decode cL_law 28 = .ok (.iaload, 1) := by decide +kernel
theorem dL_law_29 : decode cL_law 29 = .ok (.bipush 31, 2) := by decide +kernel
theorem dL_law_31 : decode cL_law 31 = .ok (.iand, 1) := by decide +kernel
theorem dL_law_32 : decode cL_law 32 = .ok (.tableswitch 748 0 22 #[108, 131, 144, 157, 190, 223, 256, 279, 312, 345, 358, 391, 434, 467, 510, 563, 587, 610, 623, 656, 679, 702, 725], 108) := by decide +kernel
theorem dL_law_140 : decode cL_law 140 = .ok (.aload_n 1, 1) := by decide +kernel
theorem dL_law_141 : decode cL_law 141 = .ok (.aload_n 0, 1) := by decide +kernel
theorem dL_law_142 : decode cL_law 142 = .ok (.iload_n 3, 1) := by decide +kernel
theorem dL_law_143 : decode cL_law 143 = .ok (.iconst 1, 1) := by decide +kernel
theorem dL_law_144 : decode cL_law 144 = .ok (.iadd, 1) := by decide +kernel
theorem dL_law_145 : decode cL_law 145 = .ok (.iaload, 1) := by decide +kernel
theorem dL_law_146 : decode cL_law 146 = .ok (.invokevirtual 13, 3) := by decide +kernel
theorem dL_law_149 : decode cL_law 149 = .ok (.aload_n 2, 1) := by decide +kernel
theorem dL_law_150 : decode cL_law 150 = .ok (.aload_n 0, 1) := by decide +kernel
theorem dL_law_151 : decode cL_law 151 = .ok (.iload_n 3, 1) := by decide +kernel
theorem dL_law_152 : decode cL_law 152 = .ok (.iconst 1, 1) := by decide +kernel
theorem dL_law_153 : decode cL_law 153 = .ok (.iadd, 1) := by decide +kernel
theorem dL_law_154 : decode cL_law 154 = .ok (.iaload, 1) := by decide +kernel
theorem dL_law_155 : decode cL_law 155 = .ok (.invokevirtual 17, 3) := by decide +kernel
theorem dL_law_158 : decode cL_law 158 = .ok (.if_icmp .eq 622, 3) := by decide +kernel
theorem dL_law_161 : decode cL_law 161 = .ok (.iconst 0, 1) := by decide +kernel
theorem dL_law_162 : decode cL_law 162 = .ok (.ireturn, 1) := by decide +kernel
theorem dL_law_163 : decode cL_law 163 = .ok (.aload_n 1, 1) := by decide +kernel
theorem dL_law_164 : decode cL_law 164 = .ok (.invokevirtual 18, 3) := by decide +kernel
theorem dL_law_167 : decode cL_law 167 = .ok (.aload_n 2, 1) := by decide +kernel
theorem dL_law_168 : decode cL_law 168 = .ok (.invokevirtual 22, 3) := by decide +kernel
theorem dL_law_171 : decode cL_law 171 = .ok (.if_icmp .eq 609, 3) := by decide +kernel
theorem dL_law_174 : decode cL_law 174 = .ok (.iconst 0, 1) := by decide +kernel
theorem dL_law_175 : decode cL_law 175 = .ok (.ireturn, 1) := by decide +kernel
theorem dL_law_176 : decode cL_law 176 = .ok (.aload_n 1, 1) := by decide +kernel
theorem dL_law_177 : decode cL_law 177 = .ok (.invokevirtual 23, 3) := by decide +kernel
theorem dL_law_180 : decode cL_law 180 = .ok (.aload_n 2, 1) := by decide +kernel
theorem dL_law_181 : decode cL_law 181 = .ok (.invokevirtual 26, 3) := by decide +kernel
theorem dL_law_184 : decode cL_law 184 = .ok (.if_icmp .eq 596, 3) := by decide +kernel
theorem dL_law_187 : decode cL_law 187 = .ok (.iconst 0, 1) := by decide +kernel
theorem dL_law_188 : decode cL_law 188 = .ok (.ireturn, 1) := by decide +kernel
theorem dL_law_189 : decode cL_law 189 = .ok (.aload_n 1, 1) := by decide +kernel
theorem dL_law_190 : decode cL_law 190 = .ok (.aload_n 0, 1) := by decide +kernel
theorem dL_law_191 : decode cL_law 191 = .ok (.iload_n 3, 1) := by decide +kernel
theorem dL_law_192 : decode cL_law 192 = .ok (.iconst 1, 1) := by decide +kernel
theorem dL_law_193 : decode cL_law 193 = .ok (.iadd, 1) := by decide +kernel
theorem dL_law_194 : decode cL_law 194 = .ok (.iaload, 1) := by decide +kernel
theorem dL_law_195 : decode cL_law 195 = .ok (.aload_n 0, 1) := by decide +kernel
theorem dL_law_196 : decode cL_law 196 = .ok (.iload_n 3, 1) := by decide +kernel
theorem dL_law_197 : decode cL_law 197 = .ok (.iconst 2, 1) := by decide +kernel
theorem dL_law_198 : decode cL_law 198 = .ok (.iadd, 1) := by decide +kernel
theorem dL_law_199 : decode cL_law 199 = .ok (.iaload, 1) := by decide +kernel
theorem dL_law_200 : decode cL_law 200 = .ok (.invokevirtual 27, 3) := by decide +kernel
theorem dL_law_203 : decode cL_law 203 = .ok (.aload_n 2, 1) := by decide +kernel
theorem dL_law_204 : decode cL_law 204 = .ok (.aload_n 0, 1) := by decide +kernel
theorem dL_law_205 : decode cL_law 205 = .ok (.iload_n 3, 1) := by decide +kernel
theorem dL_law_206 : decode cL_law 206 = .ok (.iconst 1, 1) := by decide +kernel
theorem dL_law_207 : decode cL_law 207 = .ok (.iadd, 1) := by decide +kernel
theorem dL_law_208 : decode cL_law 208 = .ok (.iaload, 1) := by decide +kernel
theorem dL_law_209 : decode cL_law 209 = .ok (.aload_n 0, 1) := by decide +kernel
theorem dL_law_210 : decode cL_law 210 = .ok (.iload_n 3, 1) := by decide +kernel
theorem dL_law_211 : decode cL_law 211 = .ok (.iconst 2, 1) := by decide +kernel
theorem dL_law_212 : decode cL_law 212 = .ok (.iadd, 1) := by decide +kernel
theorem dL_law_213 : decode cL_law 213 = .ok (.iaload, 1) := by decide +kernel
theorem dL_law_214 : decode cL_law 214 = .ok (.invokevirtual 31, 3) := by decide +kernel
theorem dL_law_217 : decode cL_law 217 = .ok (.if_icmp .eq 563, 3) := by decide +kernel
theorem dL_law_220 : decode cL_law 220 = .ok (.iconst 0, 1) := by decide +kernel
theorem dL_law_221 : decode cL_law 221 = .ok (.ireturn, 1) := by decide +kernel
theorem dL_law_222 : decode cL_law 222 = .ok (.aload_n 1, 1) := by decide +kernel
theorem dL_law_223 : decode cL_law 223 = .ok (.aload_n 0, 1) := by decide +kernel
theorem dL_law_224 : decode cL_law 224 = .ok (.iload_n 3, 1) := by decide +kernel
theorem dL_law_225 : decode cL_law 225 = .ok (.iconst 1, 1) := by decide +kernel
theorem dL_law_226 : decode cL_law 226 = .ok (.iadd, 1) := by decide +kernel
theorem dL_law_227 : decode cL_law 227 = .ok (.iaload, 1) := by decide +kernel
theorem dL_law_228 : decode cL_law 228 = .ok (.aload_n 0, 1) := by decide +kernel
theorem dL_law_229 : decode cL_law 229 = .ok (.iload_n 3, 1) := by decide +kernel
theorem dL_law_230 : decode cL_law 230 = .ok (.iconst 2, 1) := by decide +kernel
theorem dL_law_231 : decode cL_law 231 = .ok (.iadd, 1) := by decide +kernel
theorem dL_law_232 : decode cL_law 232 = .ok (.iaload, 1) := by decide +kernel
theorem dL_law_233 : decode cL_law 233 = .ok (.invokevirtual 32, 3) := by decide +kernel
theorem dL_law_236 : decode cL_law 236 = .ok (.aload_n 2, 1) := by decide +kernel
theorem dL_law_237 : decode cL_law 237 = .ok (.aload_n 0, 1) := by decide +kernel
theorem dL_law_238 : decode cL_law 238 = .ok (.iload_n 3, 1) := by decide +kernel
theorem dL_law_239 : decode cL_law 239 = .ok (.iconst 1, 1) := by decide +kernel
theorem dL_law_240 : decode cL_law 240 = .ok (.iadd, 1) := by decide +kernel
theorem dL_law_241 : decode cL_law 241 = .ok (.iaload, 1) := by decide +kernel
theorem dL_law_242 : decode cL_law 242 = .ok (.aload_n 0, 1) := by decide +kernel
theorem dL_law_243 : decode cL_law 243 = .ok (.iload_n 3, 1) := by decide +kernel
theorem dL_law_244 : decode cL_law 244 = .ok (.iconst 2, 1) := by decide +kernel
theorem dL_law_245 : decode cL_law 245 = .ok (.iadd, 1) := by decide +kernel
theorem dL_law_246 : decode cL_law 246 = .ok (.iaload, 1) := by decide +kernel
theorem dL_law_247 : decode cL_law 247 = .ok (.invokevirtual 35, 3) := by decide +kernel
theorem dL_law_250 : decode cL_law 250 = .ok (.if_icmp .eq 530, 3) := by decide +kernel
theorem dL_law_253 : decode cL_law 253 = .ok (.iconst 0, 1) := by decide +kernel
theorem dL_law_254 : decode cL_law 254 = .ok (.ireturn, 1) := by decide +kernel
theorem dL_law_255 : decode cL_law 255 = .ok (.aload_n 1, 1) := by decide +kernel
theorem dL_law_256 : decode cL_law 256 = .ok (.aload_n 0, 1) := by decide +kernel
theorem dL_law_257 : decode cL_law 257 = .ok (.iload_n 3, 1) := by decide +kernel
theorem dL_law_258 : decode cL_law 258 = .ok (.iconst 1, 1) := by decide +kernel
theorem dL_law_259 : decode cL_law 259 = .ok (.iadd, 1) := by decide +kernel
theorem dL_law_260 : decode cL_law 260 = .ok (.iaload, 1) := by decide +kernel
theorem dL_law_261 : decode cL_law 261 = .ok (.aload_n 0, 1) := by decide +kernel
theorem dL_law_262 : decode cL_law 262 = .ok (.iload_n 3, 1) := by decide +kernel
theorem dL_law_263 : decode cL_law 263 = .ok (.iconst 2, 1) := by decide +kernel
theorem dL_law_264 : decode cL_law 264 = .ok (.iadd, 1) := by decide +kernel
theorem dL_law_265 : decode cL_law 265 = .ok (.iaload, 1) := by decide +kernel
theorem dL_law_266 : decode cL_law 266 = .ok (.invokevirtual 36, 3) := by decide +kernel
theorem dL_law_269 : decode cL_law 269 = .ok (.aload_n 2, 1) := by decide +kernel
theorem dL_law_270 : decode cL_law 270 = .ok (.aload_n 0, 1) := by decide +kernel
theorem dL_law_271 : decode cL_law 271 = .ok (.iload_n 3, 1) := by decide +kernel
theorem dL_law_272 : decode cL_law 272 = .ok (.iconst 1, 1) := by decide +kernel
theorem dL_law_273 : decode cL_law 273 = .ok (.iadd, 1) := by decide +kernel
theorem dL_law_274 : decode cL_law 274 = .ok (.iaload, 1) := by decide +kernel
theorem dL_law_275 : decode cL_law 275 = .ok (.aload_n 0, 1) := by decide +kernel
theorem dL_law_276 : decode cL_law 276 = .ok (.iload_n 3, 1) := by decide +kernel
theorem dL_law_277 : decode cL_law 277 = .ok (.iconst 2, 1) := by decide +kernel
theorem dL_law_278 : decode cL_law 278 = .ok (.iadd, 1) := by decide +kernel
theorem dL_law_279 : decode cL_law 279 = .ok (.iaload, 1) := by decide +kernel
theorem dL_law_280 : decode cL_law 280 = .ok (.invokevirtual 39, 3) := by decide +kernel
theorem dL_law_283 : decode cL_law 283 = .ok (.if_icmp .eq 497, 3) := by decide +kernel
theorem dL_law_286 : decode cL_law 286 = .ok (.iconst 0, 1) := by decide +kernel
theorem dL_law_287 : decode cL_law 287 = .ok (.ireturn, 1) := by decide +kernel
theorem dL_law_288 : decode cL_law 288 = .ok (.aload_n 1, 1) := by decide +kernel
theorem dL_law_289 : decode cL_law 289 = .ok (.aload_n 0, 1) := by decide +kernel
theorem dL_law_290 : decode cL_law 290 = .ok (.iload_n 3, 1) := by decide +kernel
theorem dL_law_291 : decode cL_law 291 = .ok (.iconst 1, 1) := by decide +kernel
theorem dL_law_292 : decode cL_law 292 = .ok (.iadd, 1) := by decide +kernel
theorem dL_law_293 : decode cL_law 293 = .ok (.iaload, 1) := by decide +kernel
theorem dL_law_294 : decode cL_law 294 = .ok (.invokevirtual 40, 3) := by decide +kernel
theorem dL_law_297 : decode cL_law 297 = .ok (.aload_n 2, 1) := by decide +kernel
theorem dL_law_298 : decode cL_law 298 = .ok (.aload_n 0, 1) := by decide +kernel
theorem dL_law_299 : decode cL_law 299 = .ok (.iload_n 3, 1) := by decide +kernel
theorem dL_law_300 : decode cL_law 300 = .ok (.iconst 1, 1) := by decide +kernel
theorem dL_law_301 : decode cL_law 301 = .ok (.iadd, 1) := by decide +kernel
theorem dL_law_302 : decode cL_law 302 = .ok (.iaload, 1) := by decide +kernel
theorem dL_law_303 : decode cL_law 303 = .ok (.invokevirtual 43, 3) := by decide +kernel
theorem dL_law_306 : decode cL_law 306 = .ok (.if_icmp .eq 474, 3) := by decide +kernel
theorem dL_law_309 : decode cL_law 309 = .ok (.iconst 0, 1) := by decide +kernel
theorem dL_law_310 : decode cL_law 310 = .ok (.ireturn, 1) := by decide +kernel
theorem dL_law_311 : decode cL_law 311 = .ok (.aload_n 1, 1) := by decide +kernel
theorem dL_law_312 : decode cL_law 312 = .ok (.aload_n 0, 1) := by decide +kernel
theorem dL_law_313 : decode cL_law 313 = .ok (.iload_n 3, 1) := by decide +kernel
theorem dL_law_314 : decode cL_law 314 = .ok (.iconst 1, 1) := by decide +kernel
theorem dL_law_315 : decode cL_law 315 = .ok (.iadd, 1) := by decide +kernel
theorem dL_law_316 : decode cL_law 316 = .ok (.iaload, 1) := by decide +kernel
theorem dL_law_317 : decode cL_law 317 = .ok (.aload_n 0, 1) := by decide +kernel
theorem dL_law_318 : decode cL_law 318 = .ok (.iload_n 3, 1) := by decide +kernel
theorem dL_law_319 : decode cL_law 319 = .ok (.iconst 2, 1) := by decide +kernel
theorem dL_law_320 : decode cL_law 320 = .ok (.iadd, 1) := by decide +kernel
theorem dL_law_321 : decode cL_law 321 = .ok (.iaload, 1) := by decide +kernel
theorem dL_law_322 : decode cL_law 322 = .ok (.invokevirtual 44, 3) := by decide +kernel
theorem dL_law_325 : decode cL_law 325 = .ok (.aload_n 2, 1) := by decide +kernel
theorem dL_law_326 : decode cL_law 326 = .ok (.aload_n 0, 1) := by decide +kernel
theorem dL_law_327 : decode cL_law 327 = .ok (.iload_n 3, 1) := by decide +kernel
theorem dL_law_328 : decode cL_law 328 = .ok (.iconst 1, 1) := by decide +kernel
theorem dL_law_329 : decode cL_law 329 = .ok (.iadd, 1) := by decide +kernel
theorem dL_law_330 : decode cL_law 330 = .ok (.iaload, 1) := by decide +kernel
theorem dL_law_331 : decode cL_law 331 = .ok (.aload_n 0, 1) := by decide +kernel
theorem dL_law_332 : decode cL_law 332 = .ok (.iload_n 3, 1) := by decide +kernel
theorem dL_law_333 : decode cL_law 333 = .ok (.iconst 2, 1) := by decide +kernel
theorem dL_law_334 : decode cL_law 334 = .ok (.iadd, 1) := by decide +kernel
theorem dL_law_335 : decode cL_law 335 = .ok (.iaload, 1) := by decide +kernel
theorem dL_law_336 : decode cL_law 336 = .ok (.invokevirtual 47, 3) := by decide +kernel
theorem dL_law_339 : decode cL_law 339 = .ok (.if_icmp .eq 441, 3) := by decide +kernel
theorem dL_law_342 : decode cL_law 342 = .ok (.iconst 0, 1) := by decide +kernel
theorem dL_law_343 : decode cL_law 343 = .ok (.ireturn, 1) := by decide +kernel
theorem dL_law_344 : decode cL_law 344 = .ok (.aload_n 1, 1) := by decide +kernel
theorem dL_law_345 : decode cL_law 345 = .ok (.aload_n 0, 1) := by decide +kernel
theorem dL_law_346 : decode cL_law 346 = .ok (.iload_n 3, 1) := by decide +kernel
theorem dL_law_347 : decode cL_law 347 = .ok (.iconst 1, 1) := by decide +kernel
theorem dL_law_348 : decode cL_law 348 = .ok (.iadd, 1) := by decide +kernel
theorem dL_law_349 : decode cL_law 349 = .ok (.iaload, 1) := by decide +kernel
theorem dL_law_350 : decode cL_law 350 = .ok (.aload_n 0, 1) := by decide +kernel
theorem dL_law_351 : decode cL_law 351 = .ok (.iload_n 3, 1) := by decide +kernel
theorem dL_law_352 : decode cL_law 352 = .ok (.iconst 2, 1) := by decide +kernel
theorem dL_law_353 : decode cL_law 353 = .ok (.iadd, 1) := by decide +kernel
theorem dL_law_354 : decode cL_law 354 = .ok (.iaload, 1) := by decide +kernel
theorem dL_law_355 : decode cL_law 355 = .ok (.invokevirtual 48, 3) := by decide +kernel
theorem dL_law_358 : decode cL_law 358 = .ok (.aload_n 2, 1) := by decide +kernel
theorem dL_law_359 : decode cL_law 359 = .ok (.aload_n 0, 1) := by decide +kernel
theorem dL_law_360 : decode cL_law 360 = .ok (.iload_n 3, 1) := by decide +kernel
theorem dL_law_361 : decode cL_law 361 = .ok (.iconst 1, 1) := by decide +kernel
theorem dL_law_362 : decode cL_law 362 = .ok (.iadd, 1) := by decide +kernel
theorem dL_law_363 : decode cL_law 363 = .ok (.iaload, 1) := by decide +kernel
theorem dL_law_364 : decode cL_law 364 = .ok (.aload_n 0, 1) := by decide +kernel
theorem dL_law_365 : decode cL_law 365 = .ok (.iload_n 3, 1) := by decide +kernel
theorem dL_law_366 : decode cL_law 366 = .ok (.iconst 2, 1) := by decide +kernel
theorem dL_law_367 : decode cL_law 367 = .ok (.iadd, 1) := by decide +kernel
theorem dL_law_368 : decode cL_law 368 = .ok (.iaload, 1) := by decide +kernel
theorem dL_law_369 : decode cL_law 369 = .ok (.invokevirtual 51, 3) := by decide +kernel
theorem dL_law_372 : decode cL_law 372 = .ok (.if_icmp .eq 408, 3) := by decide +kernel
theorem dL_law_375 : decode cL_law 375 = .ok (.iconst 0, 1) := by decide +kernel
theorem dL_law_376 : decode cL_law 376 = .ok (.ireturn, 1) := by decide +kernel
theorem dL_law_377 : decode cL_law 377 = .ok (.aload_n 1, 1) := by decide +kernel
theorem dL_law_378 : decode cL_law 378 = .ok (.invokevirtual 52, 3) := by decide +kernel
theorem dL_law_381 : decode cL_law 381 = .ok (.aload_n 2, 1) := by decide +kernel
theorem dL_law_382 : decode cL_law 382 = .ok (.invokevirtual 55, 3) := by decide +kernel
theorem dL_law_385 : decode cL_law 385 = .ok (.if_icmp .eq 395, 3) := by decide +kernel
theorem dL_law_388 : decode cL_law 388 = .ok (.iconst 0, 1) := by decide +kernel
theorem dL_law_389 : decode cL_law 389 = .ok (.ireturn, 1) := by decide +kernel
theorem dL_law_390 : decode cL_law 390 = .ok (.aload_n 1, 1) := by decide +kernel
theorem dL_law_391 : decode cL_law 391 = .ok (.aload_n 0, 1) := by decide +kernel
theorem dL_law_392 : decode cL_law 392 = .ok (.iload_n 3, 1) := by decide +kernel
theorem dL_law_393 : decode cL_law 393 = .ok (.iconst 1, 1) := by decide +kernel
theorem dL_law_394 : decode cL_law 394 = .ok (.iadd, 1) := by decide +kernel
theorem dL_law_395 : decode cL_law 395 = .ok (.iaload, 1) := by decide +kernel
theorem dL_law_396 : decode cL_law 396 = .ok (.aload_n 0, 1) := by decide +kernel
theorem dL_law_397 : decode cL_law 397 = .ok (.iload_n 3, 1) := by decide +kernel
theorem dL_law_398 : decode cL_law 398 = .ok (.iconst 2, 1) := by decide +kernel
theorem dL_law_399 : decode cL_law 399 = .ok (.iadd, 1) := by decide +kernel
theorem dL_law_400 : decode cL_law 400 = .ok (.iaload, 1) := by decide +kernel
theorem dL_law_401 : decode cL_law 401 = .ok (.invokevirtual 56, 3) := by decide +kernel
theorem dL_law_404 : decode cL_law 404 = .ok (.aload_n 2, 1) := by decide +kernel
theorem dL_law_405 : decode cL_law 405 = .ok (.aload_n 0, 1) := by decide +kernel
theorem dL_law_406 : decode cL_law 406 = .ok (.iload_n 3, 1) := by decide +kernel
theorem dL_law_407 : decode cL_law 407 = .ok (.iconst 1, 1) := by decide +kernel
theorem dL_law_408 : decode cL_law 408 = .ok (.iadd, 1) := by decide +kernel
theorem dL_law_409 : decode cL_law 409 = .ok (.iaload, 1) := by decide +kernel
theorem dL_law_410 : decode cL_law 410 = .ok (.aload_n 0, 1) := by decide +kernel
theorem dL_law_411 : decode cL_law 411 = .ok (.iload_n 3, 1) := by decide +kernel
theorem dL_law_412 : decode cL_law 412 = .ok (.iconst 2, 1) := by decide +kernel
theorem dL_law_413 : decode cL_law 413 = .ok (.iadd, 1) := by decide +kernel
theorem dL_law_414 : decode cL_law 414 = .ok (.iaload, 1) := by decide +kernel
theorem dL_law_415 : decode cL_law 415 = .ok (.invokevirtual 59, 3) := by decide +kernel
theorem dL_law_418 : decode cL_law 418 = .ok (.if_icmp .eq 362, 3) := by decide +kernel
theorem dL_law_421 : decode cL_law 421 = .ok (.iconst 0, 1) := by decide +kernel
theorem dL_law_422 : decode cL_law 422 = .ok (.ireturn, 1) := by decide +kernel
theorem dL_law_423 : decode cL_law 423 = .ok (.aload_n 1, 1) := by decide +kernel
theorem dL_law_424 : decode cL_law 424 = .ok (.aload_n 0, 1) := by decide +kernel
theorem dL_law_425 : decode cL_law 425 = .ok (.iload_n 3, 1) := by decide +kernel
theorem dL_law_426 : decode cL_law 426 = .ok (.iconst 1, 1) := by decide +kernel
theorem dL_law_427 : decode cL_law 427 = .ok (.iadd, 1) := by decide +kernel
theorem dL_law_428 : decode cL_law 428 = .ok (.iaload, 1) := by decide +kernel
theorem dL_law_429 : decode cL_law 429 = .ok (.aload_n 0, 1) := by decide +kernel
theorem dL_law_430 : decode cL_law 430 = .ok (.iload_n 3, 1) := by decide +kernel
theorem dL_law_431 : decode cL_law 431 = .ok (.iconst 2, 1) := by decide +kernel
theorem dL_law_432 : decode cL_law 432 = .ok (.iadd, 1) := by decide +kernel
theorem dL_law_433 : decode cL_law 433 = .ok (.iaload, 1) := by decide +kernel
theorem dL_law_434 : decode cL_law 434 = .ok (.aload_n 0, 1) := by decide +kernel
theorem dL_law_435 : decode cL_law 435 = .ok (.iload_n 3, 1) := by decide +kernel
theorem dL_law_436 : decode cL_law 436 = .ok (.iconst 3, 1) := by decide +kernel
theorem dL_law_437 : decode cL_law 437 = .ok (.iadd, 1) := by decide +kernel
theorem dL_law_438 : decode cL_law 438 = .ok (.iaload, 1) := by decide +kernel
theorem dL_law_439 : decode cL_law 439 = .ok (.invokevirtual 60, 3) := by decide +kernel
theorem dL_law_442 : decode cL_law 442 = .ok (.aload_n 2, 1) := by decide +kernel
theorem dL_law_443 : decode cL_law 443 = .ok (.aload_n 0, 1) := by decide +kernel
theorem dL_law_444 : decode cL_law 444 = .ok (.iload_n 3, 1) := by decide +kernel
theorem dL_law_445 : decode cL_law 445 = .ok (.iconst 1, 1) := by decide +kernel
theorem dL_law_446 : decode cL_law 446 = .ok (.iadd, 1) := by decide +kernel
theorem dL_law_447 : decode cL_law 447 = .ok (.iaload, 1) := by decide +kernel
theorem dL_law_448 : decode cL_law 448 = .ok (.aload_n 0, 1) := by decide +kernel
theorem dL_law_449 : decode cL_law 449 = .ok (.iload_n 3, 1) := by decide +kernel
theorem dL_law_450 : decode cL_law 450 = .ok (.iconst 2, 1) := by decide +kernel
theorem dL_law_451 : decode cL_law 451 = .ok (.iadd, 1) := by decide +kernel
theorem dL_law_452 : decode cL_law 452 = .ok (.iaload, 1) := by decide +kernel
theorem dL_law_453 : decode cL_law 453 = .ok (.aload_n 0, 1) := by decide +kernel
theorem dL_law_454 : decode cL_law 454 = .ok (.iload_n 3, 1) := by decide +kernel
theorem dL_law_455 : decode cL_law 455 = .ok (.iconst 3, 1) := by decide +kernel
theorem dL_law_456 : decode cL_law 456 = .ok (.iadd, 1) := by decide +kernel
theorem dL_law_457 : decode cL_law 457 = .ok (.iaload, 1) := by decide +kernel
theorem dL_law_458 : decode cL_law 458 = .ok (.invokevirtual 64, 3) := by decide +kernel
theorem dL_law_461 : decode cL_law 461 = .ok (.if_icmp .eq 319, 3) := by decide +kernel
theorem dL_law_464 : decode cL_law 464 = .ok (.iconst 0, 1) := by decide +kernel
theorem dL_law_465 : decode cL_law 465 = .ok (.ireturn, 1) := by decide +kernel
theorem dL_law_466 : decode cL_law 466 = .ok (.aload_n 1, 1) := by decide +kernel
theorem dL_law_467 : decode cL_law 467 = .ok (.aload_n 0, 1) := by decide +kernel
theorem dL_law_468 : decode cL_law 468 = .ok (.iload_n 3, 1) := by decide +kernel
theorem dL_law_469 : decode cL_law 469 = .ok (.iconst 1, 1) := by decide +kernel
theorem dL_law_470 : decode cL_law 470 = .ok (.iadd, 1) := by decide +kernel
theorem dL_law_471 : decode cL_law 471 = .ok (.iaload, 1) := by decide +kernel
theorem dL_law_472 : decode cL_law 472 = .ok (.aload_n 0, 1) := by decide +kernel
theorem dL_law_473 : decode cL_law 473 = .ok (.iload_n 3, 1) := by decide +kernel
theorem dL_law_474 : decode cL_law 474 = .ok (.iconst 2, 1) := by decide +kernel
theorem dL_law_475 : decode cL_law 475 = .ok (.iadd, 1) := by decide +kernel
theorem dL_law_476 : decode cL_law 476 = .ok (.iaload, 1) := by decide +kernel
theorem dL_law_477 : decode cL_law 477 = .ok (.invokevirtual 65, 3) := by decide +kernel
theorem dL_law_480 : decode cL_law 480 = .ok (.aload_n 2, 1) := by decide +kernel
theorem dL_law_481 : decode cL_law 481 = .ok (.aload_n 0, 1) := by decide +kernel
theorem dL_law_482 : decode cL_law 482 = .ok (.iload_n 3, 1) := by decide +kernel
theorem dL_law_483 : decode cL_law 483 = .ok (.iconst 1, 1) := by decide +kernel
theorem dL_law_484 : decode cL_law 484 = .ok (.iadd, 1) := by decide +kernel
theorem dL_law_485 : decode cL_law 485 = .ok (.iaload, 1) := by decide +kernel
theorem dL_law_486 : decode cL_law 486 = .ok (.aload_n 0, 1) := by decide +kernel
theorem dL_law_487 : decode cL_law 487 = .ok (.iload_n 3, 1) := by decide +kernel
theorem dL_law_488 : decode cL_law 488 = .ok (.iconst 2, 1) := by decide +kernel
theorem dL_law_489 : decode cL_law 489 = .ok (.iadd, 1) := by decide +kernel
theorem dL_law_490 : decode cL_law 490 = .ok (.iaload, 1) := by decide +kernel
theorem dL_law_491 : decode cL_law 491 = .ok (.invokevirtual 68, 3) := by decide +kernel
theorem dL_law_494 : decode cL_law 494 = .ok (.if_icmp .eq 286, 3) := by decide +kernel
theorem dL_law_497 : decode cL_law 497 = .ok (.iconst 0, 1) := by decide +kernel
theorem dL_law_498 : decode cL_law 498 = .ok (.ireturn, 1) := by decide +kernel
theorem dL_law_499 : decode cL_law 499 = .ok (.aload_n 1, 1) := by decide +kernel
theorem dL_law_500 : decode cL_law 500 = .ok (.aload_n 0, 1) := by decide +kernel
theorem dL_law_501 : decode cL_law 501 = .ok (.iload_n 3, 1) := by decide +kernel
theorem dL_law_502 : decode cL_law 502 = .ok (.iconst 1, 1) := by decide +kernel
theorem dL_law_503 : decode cL_law 503 = .ok (.iadd, 1) := by decide +kernel
theorem dL_law_504 : decode cL_law 504 = .ok (.iaload, 1) := by decide +kernel
theorem dL_law_505 : decode cL_law 505 = .ok (.aload_n 0, 1) := by decide +kernel
theorem dL_law_506 : decode cL_law 506 = .ok (.iload_n 3, 1) := by decide +kernel
theorem dL_law_507 : decode cL_law 507 = .ok (.iconst 2, 1) := by decide +kernel
theorem dL_law_508 : decode cL_law 508 = .ok (.iadd, 1) := by decide +kernel
theorem dL_law_509 : decode cL_law 509 = .ok (.iaload, 1) := by decide +kernel
theorem dL_law_510 : decode cL_law 510 = .ok (.aload_n 0, 1) := by decide +kernel
theorem dL_law_511 : decode cL_law 511 = .ok (.iload_n 3, 1) := by decide +kernel
theorem dL_law_512 : decode cL_law 512 = .ok (.iconst 3, 1) := by decide +kernel
theorem dL_law_513 : decode cL_law 513 = .ok (.iadd, 1) := by decide +kernel
theorem dL_law_514 : decode cL_law 514 = .ok (.iaload, 1) := by decide +kernel
theorem dL_law_515 : decode cL_law 515 = .ok (.invokevirtual 69, 3) := by decide +kernel
theorem dL_law_518 : decode cL_law 518 = .ok (.aload_n 2, 1) := by decide +kernel
theorem dL_law_519 : decode cL_law 519 = .ok (.aload_n 0, 1) := by decide +kernel
theorem dL_law_520 : decode cL_law 520 = .ok (.iload_n 3, 1) := by decide +kernel
theorem dL_law_521 : decode cL_law 521 = .ok (.iconst 1, 1) := by decide +kernel
theorem dL_law_522 : decode cL_law 522 = .ok (.iadd, 1) := by decide +kernel
theorem dL_law_523 : decode cL_law 523 = .ok (.iaload, 1) := by decide +kernel
theorem dL_law_524 : decode cL_law 524 = .ok (.aload_n 0, 1) := by decide +kernel
theorem dL_law_525 : decode cL_law 525 = .ok (.iload_n 3, 1) := by decide +kernel
theorem dL_law_526 : decode cL_law 526 = .ok (.iconst 2, 1) := by decide +kernel
theorem dL_law_527 : decode cL_law 527 = .ok (.iadd, 1) := by decide +kernel
theorem dL_law_528 : decode cL_law 528 = .ok (.iaload, 1) := by decide +kernel
theorem dL_law_529 : decode cL_law 529 = .ok (.aload_n 0, 1) := by decide +kernel
theorem dL_law_530 : decode cL_law 530 = .ok (.iload_n 3, 1) := by decide +kernel
theorem dL_law_531 : decode cL_law 531 = .ok (.iconst 3, 1) := by decide +kernel
theorem dL_law_532 : decode cL_law 532 = .ok (.iadd, 1) := by decide +kernel
theorem dL_law_533 : decode cL_law 533 = .ok (.iaload, 1) := by decide +kernel
theorem dL_law_534 : decode cL_law 534 = .ok (.invokevirtual 72, 3) := by decide +kernel
theorem dL_law_537 : decode cL_law 537 = .ok (.if_icmp .eq 243, 3) := by decide +kernel
theorem dL_law_540 : decode cL_law 540 = .ok (.iconst 0, 1) := by decide +kernel
theorem dL_law_541 : decode cL_law 541 = .ok (.ireturn, 1) := by decide +kernel
theorem dL_law_542 : decode cL_law 542 = .ok (.aload_n 1, 1) := by decide +kernel
theorem dL_law_543 : decode cL_law 543 = .ok (.aload_n 0, 1) := by decide +kernel
theorem dL_law_544 : decode cL_law 544 = .ok (.iload_n 3, 1) := by decide +kernel
theorem dL_law_545 : decode cL_law 545 = .ok (.iconst 1, 1) := by decide +kernel
theorem dL_law_546 : decode cL_law 546 = .ok (.iadd, 1) := by decide +kernel
theorem dL_law_547 : decode cL_law 547 = .ok (.iaload, 1) := by decide +kernel
theorem dL_law_548 : decode cL_law 548 = .ok (.aload_n 0, 1) := by decide +kernel
theorem dL_law_549 : decode cL_law 549 = .ok (.iload_n 3, 1) := by decide +kernel
theorem dL_law_550 : decode cL_law 550 = .ok (.iconst 2, 1) := by decide +kernel
theorem dL_law_551 : decode cL_law 551 = .ok (.iadd, 1) := by decide +kernel
theorem dL_law_552 : decode cL_law 552 = .ok (.iaload, 1) := by decide +kernel
theorem dL_law_553 : decode cL_law 553 = .ok (.aload_n 0, 1) := by decide +kernel
theorem dL_law_554 : decode cL_law 554 = .ok (.iload_n 3, 1) := by decide +kernel
theorem dL_law_555 : decode cL_law 555 = .ok (.iconst 3, 1) := by decide +kernel
theorem dL_law_556 : decode cL_law 556 = .ok (.iadd, 1) := by decide +kernel
theorem dL_law_557 : decode cL_law 557 = .ok (.iaload, 1) := by decide +kernel
theorem dL_law_558 : decode cL_law 558 = .ok (.aload_n 0, 1) := by decide +kernel
theorem dL_law_559 : decode cL_law 559 = .ok (.iload_n 3, 1) := by decide +kernel
theorem dL_law_560 : decode cL_law 560 = .ok (.iconst 4, 1) := by decide +kernel
theorem dL_law_561 : decode cL_law 561 = .ok (.iadd, 1) := by decide +kernel
theorem dL_law_562 : decode cL_law 562 = .ok (.iaload, 1) := by decide +kernel
theorem dL_law_563 : decode cL_law 563 = .ok (.invokevirtual 73, 3) := by decide +kernel
theorem dL_law_566 : decode cL_law 566 = .ok (.aload_n 2, 1) := by decide +kernel
theorem dL_law_567 : decode cL_law 567 = .ok (.aload_n 0, 1) := by decide +kernel
theorem dL_law_568 : decode cL_law 568 = .ok (.iload_n 3, 1) := by decide +kernel
theorem dL_law_569 : decode cL_law 569 = .ok (.iconst 1, 1) := by decide +kernel
theorem dL_law_570 : decode cL_law 570 = .ok (.iadd, 1) := by decide +kernel
theorem dL_law_571 : decode cL_law 571 = .ok (.iaload, 1) := by decide +kernel
theorem dL_law_572 : decode cL_law 572 = .ok (.aload_n 0, 1) := by decide +kernel
theorem dL_law_573 : decode cL_law 573 = .ok (.iload_n 3, 1) := by decide +kernel
theorem dL_law_574 : decode cL_law 574 = .ok (.iconst 2, 1) := by decide +kernel
theorem dL_law_575 : decode cL_law 575 = .ok (.iadd, 1) := by decide +kernel
theorem dL_law_576 : decode cL_law 576 = .ok (.iaload, 1) := by decide +kernel
theorem dL_law_577 : decode cL_law 577 = .ok (.aload_n 0, 1) := by decide +kernel
theorem dL_law_578 : decode cL_law 578 = .ok (.iload_n 3, 1) := by decide +kernel
theorem dL_law_579 : decode cL_law 579 = .ok (.iconst 3, 1) := by decide +kernel
theorem dL_law_580 : decode cL_law 580 = .ok (.iadd, 1) := by decide +kernel
theorem dL_law_581 : decode cL_law 581 = .ok (.iaload, 1) := by decide +kernel
theorem dL_law_582 : decode cL_law 582 = .ok (.aload_n 0, 1) := by decide +kernel
theorem dL_law_583 : decode cL_law 583 = .ok (.iload_n 3, 1) := by decide +kernel
theorem dL_law_584 : decode cL_law 584 = .ok (.iconst 4, 1) := by decide +kernel
theorem dL_law_585 : decode cL_law 585 = .ok (.iadd, 1) := by decide +kernel
theorem dL_law_586 : decode cL_law 586 = .ok (.iaload, 1) := by decide +kernel
theorem dL_law_587 : decode cL_law 587 = .ok (.invokevirtual 77, 3) := by decide +kernel
theorem dL_law_590 : decode cL_law 590 = .ok (.if_icmp .eq 190, 3) := by decide +kernel
theorem dL_law_593 : decode cL_law 593 = .ok (.iconst 0, 1) := by decide +kernel
theorem dL_law_594 : decode cL_law 594 = .ok (.ireturn, 1) := by decide +kernel
theorem dL_law_595 : decode cL_law 595 = .ok (.aload_n 1, 1) := by decide +kernel
theorem dL_law_596 : decode cL_law 596 = .ok (.aload_n 0, 1) := by decide +kernel
theorem dL_law_597 : decode cL_law 597 = .ok (.iload_n 3, 1) := by decide +kernel
theorem dL_law_598 : decode cL_law 598 = .ok (.iconst 1, 1) := by decide +kernel
theorem dL_law_599 : decode cL_law 599 = .ok (.iadd, 1) := by decide +kernel
theorem dL_law_600 : decode cL_law 600 = .ok (.iaload, 1) := by decide +kernel
theorem dL_law_601 : decode cL_law 601 = .ok (.invokevirtual 78, 3) := by decide +kernel
theorem dL_law_604 : decode cL_law 604 = .ok (.aload_n 2, 1) := by decide +kernel
theorem dL_law_605 : decode cL_law 605 = .ok (.aload_n 0, 1) := by decide +kernel
theorem dL_law_606 : decode cL_law 606 = .ok (.iload_n 3, 1) := by decide +kernel
theorem dL_law_607 : decode cL_law 607 = .ok (.iconst 1, 1) := by decide +kernel
theorem dL_law_608 : decode cL_law 608 = .ok (.iadd, 1) := by decide +kernel
theorem dL_law_609 : decode cL_law 609 = .ok (.iaload, 1) := by decide +kernel
theorem dL_law_610 : decode cL_law 610 = .ok (.invokevirtual 82, 3) := by decide +kernel
theorem dL_law_613 : decode cL_law 613 = .ok (.lcmp, 1) := by decide +kernel
theorem dL_law_614 : decode cL_law 614 = .ok (.ifCond .eq 166, 3) := by decide +kernel
theorem dL_law_617 : decode cL_law 617 = .ok (.iconst 0, 1) := by decide +kernel
theorem dL_law_618 : decode cL_law 618 = .ok (.ireturn, 1) := by decide +kernel
theorem dL_law_619 : decode cL_law 619 = .ok (.aload_n 1, 1) := by decide +kernel
theorem dL_law_620 : decode cL_law 620 = .ok (.aload_n 0, 1) := by decide +kernel
theorem dL_law_621 : decode cL_law 621 = .ok (.iload_n 3, 1) := by decide +kernel
theorem dL_law_622 : decode cL_law 622 = .ok (.iconst 1, 1) := by decide +kernel
theorem dL_law_623 : decode cL_law 623 = .ok (.iadd, 1) := by decide +kernel
theorem dL_law_624 : decode cL_law 624 = .ok (.iaload, 1) := by decide +kernel
theorem dL_law_625 : decode cL_law 625 = .ok (.invokevirtual 83, 3) := by decide +kernel
theorem dL_law_628 : decode cL_law 628 = .ok (.aload_n 2, 1) := by decide +kernel
theorem dL_law_629 : decode cL_law 629 = .ok (.aload_n 0, 1) := by decide +kernel
theorem dL_law_630 : decode cL_law 630 = .ok (.iload_n 3, 1) := by decide +kernel
theorem dL_law_631 : decode cL_law 631 = .ok (.iconst 1, 1) := by decide +kernel
theorem dL_law_632 : decode cL_law 632 = .ok (.iadd, 1) := by decide +kernel
theorem dL_law_633 : decode cL_law 633 = .ok (.iaload, 1) := by decide +kernel
theorem dL_law_634 : decode cL_law 634 = .ok (.invokevirtual 86, 3) := by decide +kernel
theorem dL_law_637 : decode cL_law 637 = .ok (.if_icmp .eq 143, 3) := by decide +kernel
theorem dL_law_640 : decode cL_law 640 = .ok (.iconst 0, 1) := by decide +kernel
theorem dL_law_641 : decode cL_law 641 = .ok (.ireturn, 1) := by decide +kernel
theorem dL_law_642 : decode cL_law 642 = .ok (.aload_n 1, 1) := by decide +kernel
theorem dL_law_643 : decode cL_law 643 = .ok (.invokevirtual 87, 3) := by decide +kernel
theorem dL_law_646 : decode cL_law 646 = .ok (.aload_n 2, 1) := by decide +kernel
theorem dL_law_647 : decode cL_law 647 = .ok (.invokevirtual 90, 3) := by decide +kernel
theorem dL_law_650 : decode cL_law 650 = .ok (.if_icmp .eq 130, 3) := by decide +kernel
theorem dL_law_653 : decode cL_law 653 = .ok (.iconst 0, 1) := by decide +kernel
theorem dL_law_654 : decode cL_law 654 = .ok (.ireturn, 1) := by decide +kernel
theorem dL_law_655 : decode cL_law 655 = .ok (.aload_n 1, 1) := by decide +kernel
theorem dL_law_656 : decode cL_law 656 = .ok (.aload_n 0, 1) := by decide +kernel
theorem dL_law_657 : decode cL_law 657 = .ok (.iload_n 3, 1) := by decide +kernel
theorem dL_law_658 : decode cL_law 658 = .ok (.iconst 1, 1) := by decide +kernel
theorem dL_law_659 : decode cL_law 659 = .ok (.iadd, 1) := by decide +kernel
theorem dL_law_660 : decode cL_law 660 = .ok (.iaload, 1) := by decide +kernel
theorem dL_law_661 : decode cL_law 661 = .ok (.aload_n 0, 1) := by decide +kernel
theorem dL_law_662 : decode cL_law 662 = .ok (.iload_n 3, 1) := by decide +kernel
theorem dL_law_663 : decode cL_law 663 = .ok (.iconst 2, 1) := by decide +kernel
theorem dL_law_664 : decode cL_law 664 = .ok (.iadd, 1) := by decide +kernel
theorem dL_law_665 : decode cL_law 665 = .ok (.iaload, 1) := by decide +kernel
theorem dL_law_666 : decode cL_law 666 = .ok (.invokevirtual 91, 3) := by decide +kernel
theorem dL_law_669 : decode cL_law 669 = .ok (.aload_n 2, 1) := by decide +kernel
theorem dL_law_670 : decode cL_law 670 = .ok (.aload_n 0, 1) := by decide +kernel
theorem dL_law_671 : decode cL_law 671 = .ok (.iload_n 3, 1) := by decide +kernel
theorem dL_law_672 : decode cL_law 672 = .ok (.iconst 1, 1) := by decide +kernel
theorem dL_law_673 : decode cL_law 673 = .ok (.iadd, 1) := by decide +kernel
theorem dL_law_674 : decode cL_law 674 = .ok (.iaload, 1) := by decide +kernel
theorem dL_law_675 : decode cL_law 675 = .ok (.aload_n 0, 1) := by decide +kernel
theorem dL_law_676 : decode cL_law 676 = .ok (.iload_n 3, 1) := by decide +kernel
theorem dL_law_677 : decode cL_law 677 = .ok (.iconst 2, 1) := by decide +kernel
theorem dL_law_678 : decode cL_law 678 = .ok (.iadd, 1) := by decide +kernel
theorem dL_law_679 : decode cL_law 679 = .ok (.iaload, 1) := by decide +kernel
theorem dL_law_680 : decode cL_law 680 = .ok (.invokevirtual 94, 3) := by decide +kernel
theorem dL_law_683 : decode cL_law 683 = .ok (.if_icmp .eq 97, 3) := by decide +kernel
theorem dL_law_686 : decode cL_law 686 = .ok (.iconst 0, 1) := by decide +kernel
theorem dL_law_687 : decode cL_law 687 = .ok (.ireturn, 1) := by decide +kernel
theorem dL_law_688 : decode cL_law 688 = .ok (.aload_n 1, 1) := by decide +kernel
theorem dL_law_689 : decode cL_law 689 = .ok (.aload_n 0, 1) := by decide +kernel
theorem dL_law_690 : decode cL_law 690 = .ok (.iload_n 3, 1) := by decide +kernel
theorem dL_law_691 : decode cL_law 691 = .ok (.iconst 1, 1) := by decide +kernel
theorem dL_law_692 : decode cL_law 692 = .ok (.iadd, 1) := by decide +kernel
theorem dL_law_693 : decode cL_law 693 = .ok (.iaload, 1) := by decide +kernel
theorem dL_law_694 : decode cL_law 694 = .ok (.invokevirtual 95, 3) := by decide +kernel
theorem dL_law_697 : decode cL_law 697 = .ok (.aload_n 2, 1) := by decide +kernel
theorem dL_law_698 : decode cL_law 698 = .ok (.aload_n 0, 1) := by decide +kernel
theorem dL_law_699 : decode cL_law 699 = .ok (.iload_n 3, 1) := by decide +kernel
theorem dL_law_700 : decode cL_law 700 = .ok (.iconst 1, 1) := by decide +kernel
theorem dL_law_701 : decode cL_law 701 = .ok (.iadd, 1) := by decide +kernel
theorem dL_law_702 : decode cL_law 702 = .ok (.iaload, 1) := by decide +kernel
theorem dL_law_703 : decode cL_law 703 = .ok (.invokevirtual 98, 3) := by decide +kernel
theorem dL_law_706 : decode cL_law 706 = .ok (.if_icmp .eq 74, 3) := by decide +kernel
theorem dL_law_709 : decode cL_law 709 = .ok (.iconst 0, 1) := by decide +kernel
theorem dL_law_710 : decode cL_law 710 = .ok (.ireturn, 1) := by decide +kernel
theorem dL_law_711 : decode cL_law 711 = .ok (.aload_n 1, 1) := by decide +kernel
theorem dL_law_712 : decode cL_law 712 = .ok (.aload_n 0, 1) := by decide +kernel
theorem dL_law_713 : decode cL_law 713 = .ok (.iload_n 3, 1) := by decide +kernel
theorem dL_law_714 : decode cL_law 714 = .ok (.iconst 1, 1) := by decide +kernel
theorem dL_law_715 : decode cL_law 715 = .ok (.iadd, 1) := by decide +kernel
theorem dL_law_716 : decode cL_law 716 = .ok (.iaload, 1) := by decide +kernel
theorem dL_law_717 : decode cL_law 717 = .ok (.invokevirtual 99, 3) := by decide +kernel
theorem dL_law_720 : decode cL_law 720 = .ok (.aload_n 2, 1) := by decide +kernel
theorem dL_law_721 : decode cL_law 721 = .ok (.aload_n 0, 1) := by decide +kernel
theorem dL_law_722 : decode cL_law 722 = .ok (.iload_n 3, 1) := by decide +kernel
theorem dL_law_723 : decode cL_law 723 = .ok (.iconst 1, 1) := by decide +kernel
theorem dL_law_724 : decode cL_law 724 = .ok (.iadd, 1) := by decide +kernel
theorem dL_law_725 : decode cL_law 725 = .ok (.iaload, 1) := by decide +kernel
theorem dL_law_726 : decode cL_law 726 = .ok (.invokevirtual 102, 3) := by decide +kernel
theorem dL_law_729 : decode cL_law 729 = .ok (.if_icmp .eq 51, 3) := by decide +kernel
theorem dL_law_732 : decode cL_law 732 = .ok (.iconst 0, 1) := by decide +kernel
theorem dL_law_733 : decode cL_law 733 = .ok (.ireturn, 1) := by decide +kernel
theorem dL_law_734 : decode cL_law 734 = .ok (.aload_n 1, 1) := by decide +kernel
theorem dL_law_735 : decode cL_law 735 = .ok (.aload_n 0, 1) := by decide +kernel
theorem dL_law_736 : decode cL_law 736 = .ok (.iload_n 3, 1) := by decide +kernel
theorem dL_law_737 : decode cL_law 737 = .ok (.iconst 1, 1) := by decide +kernel
theorem dL_law_738 : decode cL_law 738 = .ok (.iadd, 1) := by decide +kernel
theorem dL_law_739 : decode cL_law 739 = .ok (.iaload, 1) := by decide +kernel
theorem dL_law_740 : decode cL_law 740 = .ok (.invokevirtual 103, 3) := by decide +kernel
theorem dL_law_743 : decode cL_law 743 = .ok (.aload_n 2, 1) := by decide +kernel
theorem dL_law_744 : decode cL_law 744 = .ok (.aload_n 0, 1) := by decide +kernel
theorem dL_law_745 : decode cL_law 745 = .ok (.iload_n 3, 1) := by decide +kernel
theorem dL_law_746 : decode cL_law 746 = .ok (.iconst 1, 1) := by decide +kernel
theorem dL_law_747 : decode cL_law 747 = .ok (.iadd, 1) := by decide +kernel
theorem dL_law_748 : decode cL_law 748 = .ok (.iaload, 1) := by decide +kernel
theorem dL_law_749 : decode cL_law 749 = .ok (.invokevirtual 106, 3) := by decide +kernel
theorem dL_law_752 : decode cL_law 752 = .ok (.if_icmp .eq 28, 3) := by decide +kernel
theorem dL_law_755 : decode cL_law 755 = .ok (.iconst 0, 1) := by decide +kernel
theorem dL_law_756 : decode cL_law 756 = .ok (.ireturn, 1) := by decide +kernel
theorem dL_law_757 : decode cL_law 757 = .ok (.aload_n 1, 1) := by decide +kernel
theorem dL_law_758 : decode cL_law 758 = .ok (.aload_n 0, 1) := by decide +kernel
theorem dL_law_759 : decode cL_law 759 = .ok (.iload_n 3, 1) := by decide +kernel
theorem dL_law_760 : decode cL_law 760 = .ok (.iconst 1, 1) := by decide +kernel
theorem dL_law_761 : decode cL_law 761 = .ok (.iadd, 1) := by decide +kernel
theorem dL_law_762 : decode cL_law 762 = .ok (.iaload, 1) := by decide +kernel
theorem dL_law_763 : decode cL_law 763 = .ok (.invokevirtual 107, 3) := by decide +kernel
theorem dL_law_766 : decode cL_law 766 = .ok (.aload_n 2, 1) := by decide +kernel
theorem dL_law_767 : decode cL_law 767 = .ok (.aload_n 0, 1) := by decide +kernel
theorem dL_law_768 : decode cL_law 768 = .ok (.iload_n 3, 1) := by decide +kernel
theorem dL_law_769 : decode cL_law 769 = .ok (.iconst 1, 1) := by decide +kernel
theorem dL_law_770 : decode cL_law 770 = .ok (.iadd, 1) := by decide +kernel
theorem dL_law_771 : decode cL_law 771 = .ok (.iaload, 1) := by decide +kernel
theorem dL_law_772 : decode cL_law 772 = .ok (.invokevirtual 110, 3) := by decide +kernel
theorem dL_law_775 : decode cL_law 775 = .ok (.if_icmp .eq 5, 3) := by decide +kernel
theorem dL_law_778 : decode cL_law 778 = .ok (.iconst 0, 1) := by decide +kernel
theorem dL_law_779 : decode cL_law 779 = .ok (.ireturn, 1) := by decide +kernel
theorem dL_law_780 : decode cL_law 780 = .ok (.iinc 3 5, 3) := by decide +kernel
theorem dL_law_783 : decode cL_law 783 = .ok (.goto (-765), 3) := by decide +kernel
theorem dL_law_786 : decode cL_law 786 = .ok (.iconst 1, 1) := by decide +kernel
theorem dL_law_787 : decode cL_law 787 = .ok (.ireturn, 1) := by decide +kernel
end
section
/-! ===== THE LOGIC: a small world of cells by their numbers; mOk: from here the method comes to its end with Q; mCl: a call does ===== -/
/-- the cells' kinds and sizes; references; ints; longs: by the cell's number and the place -/
abbrev mi_H : Type := List (Nat × Nat) × (Nat → Nat → Option Nat) × (Nat → Nat → Int32) × (Nat → Nat → Int64)
def mi_e (base : Nat) (v : Value) : Value := match v with
  | .ref k => .ref (base + k)
  | w => w
theorem mi_e_cat (base : Nat) (v : Value) : (mi_e base v).category = v.category := by cases v <;> rfl
def mi_o (base : Nat) (r : Option Nat) : Option Nat := r.map (fun k => base + k)
def mi_fv (base : Nat) (P : Nat → Option Nat) (I : Nat → Int32) (ci k : Nat) : Value := match mi_rf ci k with
  | true => va_rf (mi_o base (P k))
  | false => .int (I k)
def mi_cc (base : Nat) (cy : Nat → ClassId) (P : Nat → Option Nat) (I : Nat → Int32) (J : Nat → Int64) (q : Nat × Nat) : va_E :=
  if q.1 < 10 then .inr (q.1, (List.range q.2).map (mi_fv base P I q.1))
  else if q.1 = 10 then .inl (cy 0, q.2, .inl I)
  else if q.1 = 11 then .inl (cy 1, q.2, .inr (.inl J))
  else if q.1 = 12 then .inl (cy 2, q.2, .inl I)
  else if q.1 = 13 then .inl (cy 3, q.2, .inr (.inr (.inr (.inr (fun j => mi_o base (P j))))))
  else .inl (cy 4, q.2, .inr (.inr (.inr (.inr (fun j => mi_o base (P j))))))
theorem mi_cc_o {base : Nat} {cy : Nat → ClassId} {P : Nat → Option Nat} {I : Nat → Int32} {J : Nat → Int64} {ci N : Nat} (h : ci < 10) : mi_cc base cy P I J (ci, N) = .inr (ci, (List.range N).map (mi_fv base P I ci)) := if_pos h
def mi_P (D : va_G) (base : Nat) (cy : Nat → ClassId) (h : mi_H) (H : Heap) : Prop := H.size = base + h.1.length ∧ ∀ (a : Nat) (q : Nat × Nat), h.1[a]? = some q → va_at D vwCl (base + a, mi_cc base cy (h.2.1 a) (h.2.2.1 a) (h.2.2.2 a) q) H
def mi_tys (cy : Nat → ClassId) : List (ClassId × FieldType) := [(cy 0, .int), (cy 1, .long), (cy 2, .boolean), (cy 3, .object RX0), (cy 4, .object RX5)]
def mi_K (D : va_G) (cy : Nat → ClassId) (s : State) : Prop := va_K D vwCl (mi_tys cy) s ∧ va_AO RX0 s ∧ va_AO RX5 s ∧ ∀ w ∈ mi_nest, va_Nw w s
theorem mi_nest_w {w : Cond} (h : w ∈ mi_nest) : ∃ (a : String) (i : Nat) (y : MethodName) (b : String), w = .methodLinkNest a i y b := by
  simp only [mi_nest, List.mem_cons, List.not_mem_nil, or_false] at h
  rcases h with rfl | rfl | rfl | rfl <;> exact ⟨_, _, _, _, rfl⟩
theorem mi_K.warm {D : va_G} {cy : Nat → ClassId} {s U : State} (hW : s.WarmedH U.vm) (h : mi_K D cy s) : mi_K D cy U :=
  ⟨va_K.moved hW.alike h.1, va_AO.moved hW.alike h.2.1, va_AO.moved hW.alike h.2.2.1, fun w hw => by
    obtain ⟨a, i, y, b, rfl⟩ := mi_nest_w hw
    exact va_Nw.warmM hW (h.2.2.2 _ hw)⟩
theorem mi_K.same {D : va_G} {cy : Nat → ClassId} {s U : State} (hW : s.vm = U.vm) (h : mi_K D cy s) : mi_K D cy U :=
  ⟨va_K.moved (hW ▸ Vm.Alike.refl s.vm) h.1, va_AO.moved (hW ▸ Vm.Alike.refl s.vm) h.2.1, va_AO.moved (hW ▸ Vm.Alike.refl s.vm) h.2.2.1, fun w hw => by
    obtain ⟨a, i, y, b, rfl⟩ := mi_nest_w hw
    exact va_Nw.same rfl hW (h.2.2.2 _ hw)⟩
def mi_X (M : mi_M) (p : Program) (s : State) (m : MethodId) (args : Array Value) (meth : Method) (c : Code) : Prop :=
  p.tables.exec = Jvm.exec ∧ c.code = M.2.1 ∧ c.maxLocals = M.2.2.1 ∧ meth.sig.returnType = M.2.2.2 ∧ s.vm.findClass M.1.cls = some m.cls ∧ (∀ w ∈ gw, w.before args s = true) ∧ meth.locks = false ∧ meth.name = M.1.name
def mi_A (base : Nat) : Nat → Prop := fun q => base ≤ q
def mi_Q (D : va_G) (base : Nat) (cy : Nat → ClassId) (Q : Option Value → mi_H → Prop) : Array Value → State → Outcome → State → Prop := fun _ st oc t => (∃ (r : Option Value) (h' : mi_H), oc = .returned (r.map (mi_e base)) ∧ Q r h' ∧ mi_P D base cy h' t.heap) ∧ va_F (mi_A base) st t
def mi_L (base : Nat) (ls : Array Slot) (nL : Nat) (L : List (Option Value)) : Prop := ls.size = nL ∧ lv_wf ls ∧ ∀ (i : Nat) (v : Value), L[i]? = some (some v) → ls[i]? = some (.val (mi_e base v))
def mi_R (d mc ms : Nat) : Room := { frames := d, cells := mc, slots := ms, locals := 40 * d }
/-- from pc, with locals L, stack st, world h, n cells of k slots made: the method ends with Q -/
def mOk (M : mi_M) (d mc ms : Nat) (pc : Nat) (L : List (Option Value)) (st : List Value) (h : mi_H) (n k : Nat) (Q : Option Value → mi_H → Prop) : Prop :=
  ∀ (D : va_G) (base : Nat) (cy : Nat → ClassId) (p : Program) (l : Launch) (e : Env) (s : State) (m : MethodId) (args : Array Value) (below : List Frame) (meth : Method) (c : Code) (H : Heap) (locs : List Loc) (ls : Array Slot),
    mi_X M p s m args meth c → mi_K D cy s → mi_P D base cy h H → va_S (mi_A base) s.heap H locs → base ≤ s.heap.size → mi_L base ls M.2.2.1 L →
    W p l e (mi_R d mc ms) s m args below meth c H locs n k (MQ below (mi_Q D base cy Q) args s mc ms (mi_A base)) (F0 m pc ls (st.map (mi_e base)))
/-- a call of M with these arguments in the world h ends with Q -/
def mCl (M : mi_M) (d mc ms : Nat) (as : List Value) (h : mi_H) (Q : Option Value → mi_H → Prop) : Prop :=
  ∀ (D : va_G) (base : Nat) (cy : Nat → ClassId) (l : Launch), Met l M.1 (.code M.1 M.2.1 M.2.2.1 M.2.2.2 :: gw) (mi_R d mc ms) (va_Pc (as.map (mi_e base)) (fun U => base ≤ U.heap.size ∧ mi_P D base cy h U.heap ∧ mi_K D cy U)) (mi_Q D base cy Q) mc ms (mi_A base)
/-- a cell is written: what is around it stays -/
theorem mi_P.set {D : va_G} {base : Nat} {cy : Nat → ClassId} {h h' : mi_H} {H H' : Heap} {a : Nat} (hP : mi_P D base cy h H) (h1 : h'.1 = h.1) (hz : H'.size = H.size) (oq : ∀ q, q ≠ base + a → H'[q]? = H[q]?)
    (hne : ∀ b, b ≠ a → h'.2.1 b = h.2.1 b ∧ h'.2.2.1 b = h.2.2.1 b ∧ h'.2.2.2 b = h.2.2.2 b) (hat : ∀ q, h.1[a]? = some q → va_at D vwCl (base + a, mi_cc base cy (h'.2.1 a) (h'.2.2.1 a) (h'.2.2.2 a) q) H') : mi_P D base cy h' H' := by
  refine ⟨by rw [hz, hP.1, h1], fun b q hb => ?_⟩
  rw [h1] at hb
  by_cases e : b = a
  · subst e
    exact hat q hb
  · obtain ⟨e1, e2, e3⟩ := hne b e
    rw [e1, e2, e3]
    exact (hP.2 b q hb).kept (oq _ (fun z => e (by omega)))
/-- a cell comes -/
theorem mi_P.push {D : va_G} {base : Nat} {cy : Nat → ClassId} {h h' : mi_H} {H H' : Heap} {q0 : Nat × Nat} (hP : mi_P D base cy h H) (h1 : h'.1 = h.1 ++ [q0]) (hz : H'.size = H.size + 1) (oq : ∀ q, q < H.size → H'[q]? = H[q]?)
    (hne : ∀ b, b ≠ h.1.length → h'.2.1 b = h.2.1 b ∧ h'.2.2.1 b = h.2.2.1 b ∧ h'.2.2.2 b = h.2.2.2 b) (hat : va_at D vwCl (base + h.1.length, mi_cc base cy (h'.2.1 h.1.length) (h'.2.2.1 h.1.length) (h'.2.2.2 h.1.length) q0) H') : mi_P D base cy h' H' := by
  refine ⟨by rw [hz, hP.1, h1]; simp [Nat.add_assoc], fun b q hb => ?_⟩
  rw [h1] at hb
  by_cases e : b = h.1.length
  · subst e
    rw [List.getElem?_append_right (Nat.le_refl _)] at hb
    simp at hb
    subst hb
    exact hat
  · obtain ⟨e1, e2, e3⟩ := hne b e
    have hl : b < (h.1 ++ [q0]).length := (List.getElem?_eq_some_iff.mp hb).1
    simp at hl
    have hb2 : b < h.1.length := by omega
    rw [List.getElem?_append_left hb2] at hb
    rw [e1, e2, e3]
    exact (hP.2 b q hb).kept (oq _ (by rw [hP.1]; omega))
theorem mi_S.push {base : Nat} {H0 H H' : Heap} {locs : List Loc} (hS : va_S (mi_A base) H0 H locs) (hz : H'.size = H.size + 1) (oq : ∀ q, q < H.size → H'[q]? = H[q]?) : va_S (mi_A base) H0 H' locs :=
  ⟨by rw [hz]; exact Nat.le_succ_of_le hS.1, fun q h1 h2 => (oq q (Nat.lt_of_lt_of_le h1 hS.1)).trans (hS.2.1 q h1 h2), hS.2.2⟩
/-! locals -/
def mi_al (base : Nat) (L : List (Option Value)) : List (Nat × Value) := (List.range L.length).filterMap (fun j => match L[j]? with
  | some (some v) => some (j, mi_e base v)
  | _ => none)
theorem mi_al_in {base : Nat} {L : List (Option Value)} {q : Nat × Value} : q ∈ mi_al base L ↔ ∃ v, L[q.1]? = some (some v) ∧ q.2 = mi_e base v := by
  unfold mi_al
  rw [List.mem_filterMap]
  constructor
  · rintro ⟨j, hj, h⟩
    split at h
    · next v hv => cases h; exact ⟨v, hv, rfl⟩
    · cases h
  · rintro ⟨v, hv, h2⟩
    refine ⟨q.1, List.mem_range.mpr (List.getElem?_eq_some_iff.mp hv).1, ?_⟩
    rw [hv]
    show some (q.1, mi_e base v) = some q
    rw [← h2]
theorem mi_L.has {base : Nat} {ls : Array Slot} {nL : Nat} {L : List (Option Value)} (h : mi_L base ls nL L) : lv_has ls nL (mi_al base L) := ⟨h.1, h.2.1, fun q hq => by
  obtain ⟨v, hv, e⟩ := mi_al_in.mp hq
  rw [e]
  exact h.2.2 q.1 v hv⟩
def mi_s (L : List (Option Value)) (i : Nat) : Bool := match i with
  | 0 => true
  | j + 1 => match L[j]? with
    | some (some v) => v.category != 2
    | _ => true
theorem mi_s_ne {L : List (Option Value)} {i j : Nat} {v : Value} (hs : mi_s L i = true) (hv : L[j]? = some (some v)) : ¬ (j + 1 = i ∧ v.category = 2) := by
  rintro ⟨rfl, h2⟩
  simp [mi_s, hv, h2] at hs
theorem mi_L.of1 {base : Nat} {ls : Array Slot} {nL : Nat} {L : List (Option Value)} {i : Nat} {v : Value} (hs : mi_s L i = true) (h : lv_has ls nL ((i, mi_e base v) :: (mi_al base L).filter (fun q => !(q.1 == i) && !(q.1 + 1 == i && q.2.category == 2)))) : mi_L base ls nL (L.set i (some v)) := by
  refine ⟨h.1, h.2.1, fun j w hw => ?_⟩
  by_cases e : i = j
  · subst e
    by_cases hl : i < L.length
    · rw [List.getElem?_set_self hl] at hw
      cases hw
      exact h.2.2 _ List.mem_cons_self
    · rw [List.set_eq_of_length_le (Nat.le_of_not_lt hl)] at hw
      exact absurd (List.getElem?_eq_some_iff.mp hw).1 hl
  · rw [List.getElem?_set_ne e] at hw
    refine h.2.2 (j, mi_e base w) (List.mem_cons_of_mem _ (List.mem_filter.mpr ⟨mi_al_in.mpr ⟨w, hw, rfl⟩, ?_⟩))
    have := mi_s_ne hs hw
    simp [mi_e_cat]
    exact ⟨fun z => e z.symm, Decidable.not_and_iff_or_not.mp this⟩
theorem mi_L.of2 {base : Nat} {ls : Array Slot} {nL : Nat} {L : List (Option Value)} {i : Nat} {v : Value} (hs : mi_s L i = true) (h : lv_has ls nL ((i, mi_e base v) :: (mi_al base L).filter (fun q => !(q.1 == i) && (!(q.1 == i + 1) && !(q.1 + 1 == i && q.2.category == 2))))) : mi_L base ls nL ((L.set i (some v)).set (i + 1) none) := by
  refine ⟨h.1, h.2.1, fun j w hw => ?_⟩
  by_cases e2 : i + 1 = j
  · subst e2
    by_cases hl : i + 1 < (L.set i (some v)).length
    · rw [List.getElem?_set_self hl] at hw
      cases hw
    · rw [List.set_eq_of_length_le (Nat.le_of_not_lt hl)] at hw
      exact absurd (List.getElem?_eq_some_iff.mp hw).1 hl
  rw [List.getElem?_set_ne e2] at hw
  by_cases e : i = j
  · subst e
    by_cases hl : i < L.length
    · rw [List.getElem?_set_self hl] at hw
      cases hw
      exact h.2.2 _ List.mem_cons_self
    · rw [List.set_eq_of_length_le (Nat.le_of_not_lt hl)] at hw
      exact absurd (List.getElem?_eq_some_iff.mp hw).1 hl
  · rw [List.getElem?_set_ne e] at hw
    refine h.2.2 (j, mi_e base w) (List.mem_cons_of_mem _ (List.mem_filter.mpr ⟨mi_al_in.mpr ⟨w, hw, rfl⟩, ?_⟩))
    have := mi_s_ne hs hw
    simp [mi_e_cat]
    exact ⟨fun z => e z.symm, fun z => e2 z.symm, Decidable.not_and_iff_or_not.mp this⟩
/-! a method's entry -/
def mi_in (as : List Value) (nL : Nat) : List (Option Value) := as.map some ++ List.replicate (nL - as.length) none
theorem mi_args : ∀ (vs : List Value) (i j : Nat) (v : Value), (vs.all fun v => v.category == 1) = true → vs[j]? = some v → (i + j, v) ∈ lv_args i vs
  | [], i, j, v, _, h => by simp at h
  | x :: vs, i, 0, v, _, h => by
    simp at h
    subst h
    exact List.mem_cons_self
  | x :: vs, i, j + 1, v, ha, h => by
    simp only [List.all_cons, Bool.and_eq_true, beq_iff_eq] at ha
    have h2 := mi_args vs (i + 1) j v ha.2 (by simpa using h)
    show _ ∈ (i, x) :: lv_args (if x.category = 2 then i + 2 else i + 1) vs
    rw [if_neg (by rw [ha.1]; decide)]
    refine List.mem_cons_of_mem _ ?_
    rw [show i + (j + 1) = i + 1 + j by omega]
    exact h2
theorem mi_sl : ∀ (vs : List Value), (vs.all fun v => v.category == 1) = true → (lg_sl vs).length = vs.length
  | [], _ => rfl
  | x :: vs, ha => by
    simp only [List.all_cons, Bool.and_eq_true, beq_iff_eq] at ha
    have := mi_sl vs ha.2
    simp [lg_sl, ha.1] at this ⊢
    exact this
theorem mi_all (base : Nat) (vs : List Value) (ha : (vs.all fun v => v.category == 1) = true) : ((vs.map (mi_e base)).all fun v => v.category == 1) = true := by
  rw [List.all_map]
  simp only [List.all_eq_true] at ha ⊢
  intro x hx
  simpa [mi_e_cat] using ha x hx
theorem mCl.of {M : mi_M} {d mc ms : Nat} {as : List Value} {h : mi_H} {Q : Option Value → mi_H → Prop} (hy : plainName M.1.cls = true) (ha : (as.all fun v => v.category == 1) = true) (hn : as.length ≤ M.2.2.1) (kk : mOk M d mc ms 0 (mi_in as M.2.2.1) [] h 0 0 Q) : mCl M d mc ms as h Q := by
  intro D base cy l
  refine Met.ofW (cc := M.2.1) (maxL := M.2.2.1) (ret := M.2.2.2) hy rfl ?_
  intro p e s m args below meth c s₁ B hml hv
  obtain ⟨rfl, hB, hP, hK⟩ := hv
  have ha2 := mi_all base as ha
  have hl := lv_entry (as.map (mi_e base)) (n := M.2.2.1) (by rw [mi_sl _ ha2, List.length_map]; exact hn)
  rw [lg_entry_eq]
  refine kk D base cy p l e s m _ below meth c s.heap [] _ ⟨B.exec, B.bytes, hml, B.returns, findClass_of_methodNamed B.named, fun w hw => atoms_spec (ws := _) B.pre w (List.mem_cons_of_mem _ hw), B.notSynchronized, (name_of_methodNamed B.named B.method).1⟩ hK hP va_S.rf hB ⟨hl.1, hl.2.1, fun i v hv => ?_⟩
  have hi : i < as.length := by
    unfold mi_in at hv
    rcases Nat.lt_or_ge i as.length with q | q
    · exact q
    · rw [List.getElem?_append_right (by simpa using q)] at hv
      have := List.eq_of_mem_replicate (List.mem_of_getElem? hv)
      cases this
  have hv2 : as[i]? = some v := by
    unfold mi_in at hv
    rw [List.getElem?_append_left (by simpa using hi), List.getElem?_map] at hv
    cases hz : as[i]? with
    | none => rw [hz] at hv; cases hv
    | some w => rw [hz] at hv; cases hv; rfl
  have h3 := mi_args (as.map (mi_e base)) 0 i (mi_e base v) ha2 (by rw [List.getElem?_map, hv2]; rfl)
  rw [Nat.zero_add] at h3
  exact hl.2.2 _ h3
theorem mOk.mono {M : mi_M} {d mc ms pc n k : Nat} {L : List (Option Value)} {st : List Value} {h : mi_H} {Q Q' : Option Value → mi_H → Prop} (hq : ∀ r h', Q r h' → Q' r h') (kk : mOk M d mc ms pc L st h n k Q) : mOk M d mc ms pc L st h n k Q' := by
  intro D base cy p l e s m args below meth c H locs ls hX hK hP hS hB hL T hT X
  obtain ⟨t, a, o, b1, b2, ⟨⟨r, h', g1, g2, g3⟩, g4⟩, b4⟩ := kk D base cy p l e s m args below meth c H locs ls hX hK hP hS hB hL T hT X
  exact ⟨t, a, o, b1, b2, ⟨⟨r, h', g1, hq _ _ g2, g3⟩, g4⟩, b4⟩
end
section
section MR
variable {M : mi_M} {d mc ms pc n k : Nat} {L : List (Option Value)} {st : List Value} {h : mi_H} {Q : Option Value → mi_H → Prop}
theorem mOk.iconst {v : Int} {x : Int32} (hd : decode M.2.1 pc = .ok (.iconst v, 1)) (hv : Int32.ofInt v = x) (kk : mOk M d mc ms (pc + 1) L (.int x :: st) h n k Q) : mOk M d mc ms pc L st h n k Q :=
  fun D base cy p l e s m args below meth c H locs ls hX hK hP hS hB hL => lv_iconst hX.1 hX.2.1 hd hv (kk D base cy p l e s m args below meth c H locs ls hX hK hP hS hB hL)
theorem mOk.bipush {v : Int} {x : Int32} (hd : decode M.2.1 pc = .ok (.bipush v, 2)) (hv : (Int8.ofInt v).toInt32 = x) (kk : mOk M d mc ms (pc + 2) L (.int x :: st) h n k Q) : mOk M d mc ms pc L st h n k Q :=
  fun D base cy p l e s m args below meth c H locs ls hX hK hP hS hB hL => lv_bipush hX.1 hX.2.1 hd hv (kk D base cy p l e s m args below meth c H locs ls hX hK hP hS hB hL)
theorem mOk.sipush {v : Int} {x : Int32} (hd : decode M.2.1 pc = .ok (.sipush v, 3)) (hv : (Int16.ofInt v).toInt32 = x) (kk : mOk M d mc ms (pc + 3) L (.int x :: st) h n k Q) : mOk M d mc ms pc L st h n k Q :=
  fun D base cy p l e s m args below meth c H locs ls hX hK hP hS hB hL => lv_sipush hX.1 hX.2.1 hd hv (kk D base cy p l e s m args below meth c H locs ls hX hK hP hS hB hL)
theorem mOk.lconst {v : Fin 2} {x : Int64} (hd : decode M.2.1 pc = .ok (.lconst v, 1)) (hv : Int64.ofNat (v : Nat) = x) (kk : mOk M d mc ms (pc + 1) L (.long x :: st) h n k Q) : mOk M d mc ms pc L st h n k Q :=
  fun D base cy p l e s m args below meth c H locs ls hX hK hP hS hB hL => lv_lconst hX.1 hX.2.1 hd hv (kk D base cy p l e s m args below meth c H locs ls hX hK hP hS hB hL)
theorem mOk.ldc2 {idx : Nat} {x : Int64} (hd : decode M.2.1 pc = .ok (.ldc2_w idx, 3)) (hc : Cond.constantLong M.1.cls idx x ∈ gw) (kk : mOk M d mc ms (pc + 3) L (.long x :: st) h n k Q) : mOk M d mc ms pc L st h n k Q :=
  fun D base cy p l e s m args below meth c H locs ls hX hK hP hS hB hL => lv_ldc2 hX.1 hX.2.1 hX.2.2.2.2.1 (hX.2.2.2.2.2.1 _ hc) hd (kk D base cy p l e s m args below meth c H locs ls hX hK hP hS hB hL)
theorem mOk.anull  (hd : decode M.2.1 pc = .ok (.aconst_null, 1)) (kk : mOk M d mc ms (pc + 1) L (.null :: st) h n k Q) : mOk M d mc ms pc L st h n k Q :=
  fun D base cy p l e s m args below meth c H locs ls hX hK hP hS hB hL => lv_null hX.1 hX.2.1 hd (kk D base cy p l e s m args below meth c H locs ls hX hK hP hS hB hL)
theorem mOk.iadd {x y : Int32} (hd : decode M.2.1 pc = .ok (.iadd, 1)) (kk : mOk M d mc ms (pc + 1) L (.int (x + y) :: st) h n k Q) : mOk M d mc ms pc L (.int y :: .int x :: st) h n k Q :=
  fun D base cy p l e s m args below meth c H locs ls hX hK hP hS hB hL => lv_iadd hX.1 hX.2.1 hd (kk D base cy p l e s m args below meth c H locs ls hX hK hP hS hB hL)
theorem mOk.isub {x y : Int32} (hd : decode M.2.1 pc = .ok (.isub, 1)) (kk : mOk M d mc ms (pc + 1) L (.int (x - y) :: st) h n k Q) : mOk M d mc ms pc L (.int y :: .int x :: st) h n k Q :=
  fun D base cy p l e s m args below meth c H locs ls hX hK hP hS hB hL => lv_isub hX.1 hX.2.1 hd (kk D base cy p l e s m args below meth c H locs ls hX hK hP hS hB hL)
theorem mOk.imul {x y : Int32} (hd : decode M.2.1 pc = .ok (.imul, 1)) (kk : mOk M d mc ms (pc + 1) L (.int (x * y) :: st) h n k Q) : mOk M d mc ms pc L (.int y :: .int x :: st) h n k Q :=
  fun D base cy p l e s m args below meth c H locs ls hX hK hP hS hB hL => lv_imul hX.1 hX.2.1 hd (kk D base cy p l e s m args below meth c H locs ls hX hK hP hS hB hL)
theorem mOk.iand {x y : Int32} (hd : decode M.2.1 pc = .ok (.iand, 1)) (kk : mOk M d mc ms (pc + 1) L (.int (x &&& y) :: st) h n k Q) : mOk M d mc ms pc L (.int y :: .int x :: st) h n k Q :=
  fun D base cy p l e s m args below meth c H locs ls hX hK hP hS hB hL => lv_iand hX.1 hX.2.1 hd (kk D base cy p l e s m args below meth c H locs ls hX hK hP hS hB hL)
theorem mOk.ladd {x y : Int64} (hd : decode M.2.1 pc = .ok (.ladd, 1)) (kk : mOk M d mc ms (pc + 1) L (.long (x + y) :: st) h n k Q) : mOk M d mc ms pc L (.long y :: .long x :: st) h n k Q :=
  fun D base cy p l e s m args below meth c H locs ls hX hK hP hS hB hL => lv_ladd hX.1 hX.2.1 hd (kk D base cy p l e s m args below meth c H locs ls hX hK hP hS hB hL)
theorem mOk.lcmp {x y : Int64} (hd : decode M.2.1 pc = .ok (.lcmp, 1)) (kk : mOk M d mc ms (pc + 1) L (.int (lg_cmp x y) :: st) h n k Q) : mOk M d mc ms pc L (.long y :: .long x :: st) h n k Q :=
  fun D base cy p l e s m args below meth c H locs ls hX hK hP hS hB hL => W.lcmp hX.1 hX.2.1 hd (kk D base cy p l e s m args below meth c H locs ls hX hK hP hS hB hL)
theorem mOk.dup {v : Value} (hd : decode M.2.1 pc = .ok (.dup, 1)) (hv : v.category = 1) (kk : mOk M d mc ms (pc + 1) L (v :: v :: st) h n k Q) : mOk M d mc ms pc L (v :: st) h n k Q :=
  fun D base cy p l e s m args below meth c H locs ls hX hK hP hS hB hL => lv_dup hX.1 hX.2.1 hd (by rw [mi_e_cat]; exact hv) (kk D base cy p l e s m args below meth c H locs ls hX hK hP hS hB hL)
theorem mOk.pop {v : Value} (hd : decode M.2.1 pc = .ok (.pop, 1)) (hv : v.category = 1) (kk : mOk M d mc ms (pc + 1) L st h n k Q) : mOk M d mc ms pc L (v :: st) h n k Q :=
  fun D base cy p l e s m args below meth c H locs ls hX hK hP hS hB hL => lv_pop hX.1 hX.2.1 hd (by rw [mi_e_cat]; exact hv) (kk D base cy p l e s m args below meth c H locs ls hX hK hP hS hB hL)
theorem mOk.dup2 {v w : Value} (hd : decode M.2.1 pc = .ok (.dup2, 1)) (hv : v.category = 1) (hw : w.category = 1) (kk : mOk M d mc ms (pc + 1) L (v :: w :: v :: w :: st) h n k Q) : mOk M d mc ms pc L (v :: w :: st) h n k Q :=
  fun D base cy p l e s m args below meth c H locs ls hX hK hP hS hB hL => lv_dup2_11 hX.1 hX.2.1 hd (by rw [mi_e_cat]; exact hv) (by rw [mi_e_cat]; exact hw) (kk D base cy p l e s m args below meth c H locs ls hX hK hP hS hB hL)
theorem mOk.iload0n  {x : Int32} {q : Fin 4} (hd : decode M.2.1 pc = .ok (.iload_n q, 1)) (hq : (q : Nat) = 0) (kk : mOk M d mc ms (pc + 1) (some (.int x) :: L) (.int x :: st) h n k Q) : mOk M d mc ms pc (some (.int x) :: L) st h n k Q :=
  fun D base cy p l e s m args below meth c H locs ls hX hK hP hS hB hL => lv_iload_n hX.1 hX.2.1 hd hq (hL.2.2 0 _ (show (some (.int x) :: L)[0]? = some (some (.int x)) from rfl)) (kk D base cy p l e s m args below meth c H locs ls hX hK hP hS hB hL)
theorem mOk.iload0  {x : Int32} (hd : decode M.2.1 pc = .ok (.iload 0, 2)) (kk : mOk M d mc ms (pc + 2) (some (.int x) :: L) (.int x :: st) h n k Q) : mOk M d mc ms pc (some (.int x) :: L) st h n k Q :=
  fun D base cy p l e s m args below meth c H locs ls hX hK hP hS hB hL => lv_iload hX.1 hX.2.1 hd (hL.2.2 0 _ (show (some (.int x) :: L)[0]? = some (some (.int x)) from rfl)) (kk D base cy p l e s m args below meth c H locs ls hX hK hP hS hB hL)
theorem mOk.aload0n  {x : Nat} {q : Fin 4} (hd : decode M.2.1 pc = .ok (.aload_n q, 1)) (hq : (q : Nat) = 0) (kk : mOk M d mc ms (pc + 1) (some (.ref x) :: L) (.ref x :: st) h n k Q) : mOk M d mc ms pc (some (.ref x) :: L) st h n k Q :=
  fun D base cy p l e s m args below meth c H locs ls hX hK hP hS hB hL => lv_aload_n hX.1 hX.2.1 hd hq (hL.2.2 0 _ (show (some (.ref x) :: L)[0]? = some (some (.ref x)) from rfl)) (kk D base cy p l e s m args below meth c H locs ls hX hK hP hS hB hL)
theorem mOk.aload0  {x : Nat} (hd : decode M.2.1 pc = .ok (.aload 0, 2)) (kk : mOk M d mc ms (pc + 2) (some (.ref x) :: L) (.ref x :: st) h n k Q) : mOk M d mc ms pc (some (.ref x) :: L) st h n k Q :=
  fun D base cy p l e s m args below meth c H locs ls hX hK hP hS hB hL => lv_aload hX.1 hX.2.1 hd (hL.2.2 0 _ (show (some (.ref x) :: L)[0]? = some (some (.ref x)) from rfl)) (kk D base cy p l e s m args below meth c H locs ls hX hK hP hS hB hL)
theorem mOk.lload0n  {x : Int64} {q : Fin 4} (hd : decode M.2.1 pc = .ok (.lload_n q, 1)) (hq : (q : Nat) = 0) (kk : mOk M d mc ms (pc + 1) (some (.long x) :: L) (.long x :: st) h n k Q) : mOk M d mc ms pc (some (.long x) :: L) st h n k Q :=
  fun D base cy p l e s m args below meth c H locs ls hX hK hP hS hB hL => lv_lload_n hX.1 hX.2.1 hd hq (hL.2.2 0 _ (show (some (.long x) :: L)[0]? = some (some (.long x)) from rfl)) (kk D base cy p l e s m args below meth c H locs ls hX hK hP hS hB hL)
theorem mOk.lload0  {x : Int64} (hd : decode M.2.1 pc = .ok (.lload 0, 2)) (kk : mOk M d mc ms (pc + 2) (some (.long x) :: L) (.long x :: st) h n k Q) : mOk M d mc ms pc (some (.long x) :: L) st h n k Q :=
  fun D base cy p l e s m args below meth c H locs ls hX hK hP hS hB hL => lv_lload hX.1 hX.2.1 hd (hL.2.2 0 _ (show (some (.long x) :: L)[0]? = some (some (.long x)) from rfl)) (kk D base cy p l e s m args below meth c H locs ls hX hK hP hS hB hL)
theorem mOk.aloadN0n  {q : Fin 4} (hd : decode M.2.1 pc = .ok (.aload_n q, 1)) (hq : (q : Nat) = 0) (kk : mOk M d mc ms (pc + 1) (some .null :: L) (.null :: st) h n k Q) : mOk M d mc ms pc (some .null :: L) st h n k Q :=
  fun D base cy p l e s m args below meth c H locs ls hX hK hP hS hB hL => lv_aload_nN hX.1 hX.2.1 hd hq (hL.2.2 0 _ (show (some .null :: L)[0]? = some (some .null) from rfl)) (kk D base cy p l e s m args below meth c H locs ls hX hK hP hS hB hL)
theorem mOk.aloadN0  (hd : decode M.2.1 pc = .ok (.aload 0, 2)) (kk : mOk M d mc ms (pc + 2) (some .null :: L) (.null :: st) h n k Q) : mOk M d mc ms pc (some .null :: L) st h n k Q :=
  fun D base cy p l e s m args below meth c H locs ls hX hK hP hS hB hL => lv_aloadN hX.1 hX.2.1 hd (hL.2.2 0 _ (show (some .null :: L)[0]? = some (some .null) from rfl)) (kk D base cy p l e s m args below meth c H locs ls hX hK hP hS hB hL)
theorem mOk.istore0n {l0 : Option Value} {x : Int32} {q : Fin 4} (hd : decode M.2.1 pc = .ok (.istore_n q, 1)) (hq : (q : Nat) = 0) (hn : 0 < M.2.2.1) (hs : mi_s (l0 :: L) 0 = true) (kk : mOk M d mc ms (pc + 1) (some (.int x) :: L) st h n k Q) : mOk M d mc ms pc (l0 :: L) (.int x :: st) h n k Q :=
  fun D base cy p l e s m args below meth c H locs ls hX hK hP hS hB hL => lv_istore_n (nL := M.2.2.1) (lv := mi_al base (l0 :: L)) hX.1 hX.2.1 hd hq hL.has hn rfl (fun ls1 hl1 => kk D base cy p l e s m args below meth c H locs ls1 hX hK hP hS hB (mi_L.of1 (L := l0 :: L) (i := 0) (v := .int x) hs hl1))
theorem mOk.istore0 {l0 : Option Value} {x : Int32} (hd : decode M.2.1 pc = .ok (.istore 0, 2)) (hn : 0 < M.2.2.1) (hs : mi_s (l0 :: L) 0 = true) (kk : mOk M d mc ms (pc + 2) (some (.int x) :: L) st h n k Q) : mOk M d mc ms pc (l0 :: L) (.int x :: st) h n k Q :=
  fun D base cy p l e s m args below meth c H locs ls hX hK hP hS hB hL => lv_istore (nL := M.2.2.1) (lv := mi_al base (l0 :: L)) hX.1 hX.2.1 hd hL.has hn rfl (fun ls1 hl1 => kk D base cy p l e s m args below meth c H locs ls1 hX hK hP hS hB (mi_L.of1 (L := l0 :: L) (i := 0) (v := .int x) hs hl1))
theorem mOk.astore0n {l0 : Option Value} {x : Nat} {q : Fin 4} (hd : decode M.2.1 pc = .ok (.astore_n q, 1)) (hq : (q : Nat) = 0) (hn : 0 < M.2.2.1) (hs : mi_s (l0 :: L) 0 = true) (kk : mOk M d mc ms (pc + 1) (some (.ref x) :: L) st h n k Q) : mOk M d mc ms pc (l0 :: L) (.ref x :: st) h n k Q :=
  fun D base cy p l e s m args below meth c H locs ls hX hK hP hS hB hL => lv_astore_n (nL := M.2.2.1) (lv := mi_al base (l0 :: L)) hX.1 hX.2.1 hd hq hL.has hn rfl (fun ls1 hl1 => kk D base cy p l e s m args below meth c H locs ls1 hX hK hP hS hB (mi_L.of1 (L := l0 :: L) (i := 0) (v := .ref x) hs hl1))
theorem mOk.astore0 {l0 : Option Value} {x : Nat} (hd : decode M.2.1 pc = .ok (.astore 0, 2)) (hn : 0 < M.2.2.1) (hs : mi_s (l0 :: L) 0 = true) (kk : mOk M d mc ms (pc + 2) (some (.ref x) :: L) st h n k Q) : mOk M d mc ms pc (l0 :: L) (.ref x :: st) h n k Q :=
  fun D base cy p l e s m args below meth c H locs ls hX hK hP hS hB hL => lv_astore (nL := M.2.2.1) (lv := mi_al base (l0 :: L)) hX.1 hX.2.1 hd hL.has hn rfl (fun ls1 hl1 => kk D base cy p l e s m args below meth c H locs ls1 hX hK hP hS hB (mi_L.of1 (L := l0 :: L) (i := 0) (v := .ref x) hs hl1))
theorem mOk.astoreN0n {l0 : Option Value}  {q : Fin 4} (hd : decode M.2.1 pc = .ok (.astore_n q, 1)) (hq : (q : Nat) = 0) (hn : 0 < M.2.2.1) (hs : mi_s (l0 :: L) 0 = true) (kk : mOk M d mc ms (pc + 1) (some (.null) :: L) st h n k Q) : mOk M d mc ms pc (l0 :: L) (.null :: st) h n k Q :=
  fun D base cy p l e s m args below meth c H locs ls hX hK hP hS hB hL => lv_astore_nN (nL := M.2.2.1) (lv := mi_al base (l0 :: L)) hX.1 hX.2.1 hd hq hL.has hn rfl (fun ls1 hl1 => kk D base cy p l e s m args below meth c H locs ls1 hX hK hP hS hB (mi_L.of1 (L := l0 :: L) (i := 0) (v := .null) hs hl1))
theorem mOk.astoreN0 {l0 : Option Value}  (hd : decode M.2.1 pc = .ok (.astore 0, 2)) (hn : 0 < M.2.2.1) (hs : mi_s (l0 :: L) 0 = true) (kk : mOk M d mc ms (pc + 2) (some (.null) :: L) st h n k Q) : mOk M d mc ms pc (l0 :: L) (.null :: st) h n k Q :=
  fun D base cy p l e s m args below meth c H locs ls hX hK hP hS hB hL => lv_astoreN (nL := M.2.2.1) (lv := mi_al base (l0 :: L)) hX.1 hX.2.1 hd hL.has hn rfl (fun ls1 hl1 => kk D base cy p l e s m args below meth c H locs ls1 hX hK hP hS hB (mi_L.of1 (L := l0 :: L) (i := 0) (v := .null) hs hl1))
theorem mOk.lstore0n {l0 l1 : Option Value} {x : Int64} {q : Fin 4} (hd : decode M.2.1 pc = .ok (.lstore_n q, 1)) (hq : (q : Nat) = 0) (hn : 0 + 1 < M.2.2.1) (hs : mi_s (l0 :: l1 :: L) 0 = true) (kk : mOk M d mc ms (pc + 1) (some (.long x) :: none :: L) st h n k Q) : mOk M d mc ms pc (l0 :: l1 :: L) (.long x :: st) h n k Q :=
  fun D base cy p l e s m args below meth c H locs ls hX hK hP hS hB hL => lv_lstore_n (nL := M.2.2.1) (lv := mi_al base (l0 :: l1 :: L)) hX.1 hX.2.1 hd hq hL.has hn rfl (fun ls1 hl1 => kk D base cy p l e s m args below meth c H locs ls1 hX hK hP hS hB (mi_L.of2 (L := l0 :: l1 :: L) (i := 0) (v := .long x) hs hl1))
theorem mOk.lstore0 {l0 l1 : Option Value} {x : Int64} (hd : decode M.2.1 pc = .ok (.lstore 0, 2)) (hn : 0 + 1 < M.2.2.1) (hs : mi_s (l0 :: l1 :: L) 0 = true) (kk : mOk M d mc ms (pc + 2) (some (.long x) :: none :: L) st h n k Q) : mOk M d mc ms pc (l0 :: l1 :: L) (.long x :: st) h n k Q :=
  fun D base cy p l e s m args below meth c H locs ls hX hK hP hS hB hL => lv_lstore (nL := M.2.2.1) (lv := mi_al base (l0 :: l1 :: L)) hX.1 hX.2.1 hd hL.has hn rfl (fun ls1 hl1 => kk D base cy p l e s m args below meth c H locs ls1 hX hK hP hS hB (mi_L.of2 (L := l0 :: l1 :: L) (i := 0) (v := .long x) hs hl1))
theorem mOk.iinc0  {x y : Int32} {z : Int} (hd : decode M.2.1 pc = .ok (.iinc 0 z, 3)) (hv : x + Int32.ofInt z = y) (hn : 0 < M.2.2.1) (hs : mi_s (some (.int x) :: L) 0 = true) (kk : mOk M d mc ms (pc + 3) (some (.int y) :: L) st h n k Q) : mOk M d mc ms pc (some (.int x) :: L) st h n k Q := by
  intro D base cy p l e s m args below meth c H locs ls hX hK hP hS hB hL
  obtain ⟨j, hj⟩ := List.getElem?_of_mem (mi_al_in (base := base) (L := some (.int x) :: L) (q := (0, .int x)) |>.mpr ⟨.int x, rfl, rfl⟩)
  exact lv_iinc (nL := M.2.2.1) (k := j) (lv := mi_al base (some (.int x) :: L)) hX.1 hX.2.1 hd hL.has hj hv hn rfl (fun ls1 hl1 => kk D base cy p l e s m args below meth c H locs ls1 hX hK hP hS hB (mi_L.of1 (L := some (.int x) :: L) (i := 0) (v := .int y) hs hl1))
theorem mOk.iload1n {l0 : Option Value} {x : Int32} {q : Fin 4} (hd : decode M.2.1 pc = .ok (.iload_n q, 1)) (hq : (q : Nat) = 1) (kk : mOk M d mc ms (pc + 1) (l0 :: some (.int x) :: L) (.int x :: st) h n k Q) : mOk M d mc ms pc (l0 :: some (.int x) :: L) st h n k Q :=
  fun D base cy p l e s m args below meth c H locs ls hX hK hP hS hB hL => lv_iload_n hX.1 hX.2.1 hd hq (hL.2.2 1 _ (show (l0 :: some (.int x) :: L)[1]? = some (some (.int x)) from rfl)) (kk D base cy p l e s m args below meth c H locs ls hX hK hP hS hB hL)
theorem mOk.iload1 {l0 : Option Value} {x : Int32} (hd : decode M.2.1 pc = .ok (.iload 1, 2)) (kk : mOk M d mc ms (pc + 2) (l0 :: some (.int x) :: L) (.int x :: st) h n k Q) : mOk M d mc ms pc (l0 :: some (.int x) :: L) st h n k Q :=
  fun D base cy p l e s m args below meth c H locs ls hX hK hP hS hB hL => lv_iload hX.1 hX.2.1 hd (hL.2.2 1 _ (show (l0 :: some (.int x) :: L)[1]? = some (some (.int x)) from rfl)) (kk D base cy p l e s m args below meth c H locs ls hX hK hP hS hB hL)
theorem mOk.aload1n {l0 : Option Value} {x : Nat} {q : Fin 4} (hd : decode M.2.1 pc = .ok (.aload_n q, 1)) (hq : (q : Nat) = 1) (kk : mOk M d mc ms (pc + 1) (l0 :: some (.ref x) :: L) (.ref x :: st) h n k Q) : mOk M d mc ms pc (l0 :: some (.ref x) :: L) st h n k Q :=
  fun D base cy p l e s m args below meth c H locs ls hX hK hP hS hB hL => lv_aload_n hX.1 hX.2.1 hd hq (hL.2.2 1 _ (show (l0 :: some (.ref x) :: L)[1]? = some (some (.ref x)) from rfl)) (kk D base cy p l e s m args below meth c H locs ls hX hK hP hS hB hL)
theorem mOk.aload1 {l0 : Option Value} {x : Nat} (hd : decode M.2.1 pc = .ok (.aload 1, 2)) (kk : mOk M d mc ms (pc + 2) (l0 :: some (.ref x) :: L) (.ref x :: st) h n k Q) : mOk M d mc ms pc (l0 :: some (.ref x) :: L) st h n k Q :=
  fun D base cy p l e s m args below meth c H locs ls hX hK hP hS hB hL => lv_aload hX.1 hX.2.1 hd (hL.2.2 1 _ (show (l0 :: some (.ref x) :: L)[1]? = some (some (.ref x)) from rfl)) (kk D base cy p l e s m args below meth c H locs ls hX hK hP hS hB hL)
theorem mOk.lload1n {l0 : Option Value} {x : Int64} {q : Fin 4} (hd : decode M.2.1 pc = .ok (.lload_n q, 1)) (hq : (q : Nat) = 1) (kk : mOk M d mc ms (pc + 1) (l0 :: some (.long x) :: L) (.long x :: st) h n k Q) : mOk M d mc ms pc (l0 :: some (.long x) :: L) st h n k Q :=
  fun D base cy p l e s m args below meth c H locs ls hX hK hP hS hB hL => lv_lload_n hX.1 hX.2.1 hd hq (hL.2.2 1 _ (show (l0 :: some (.long x) :: L)[1]? = some (some (.long x)) from rfl)) (kk D base cy p l e s m args below meth c H locs ls hX hK hP hS hB hL)
theorem mOk.lload1 {l0 : Option Value} {x : Int64} (hd : decode M.2.1 pc = .ok (.lload 1, 2)) (kk : mOk M d mc ms (pc + 2) (l0 :: some (.long x) :: L) (.long x :: st) h n k Q) : mOk M d mc ms pc (l0 :: some (.long x) :: L) st h n k Q :=
  fun D base cy p l e s m args below meth c H locs ls hX hK hP hS hB hL => lv_lload hX.1 hX.2.1 hd (hL.2.2 1 _ (show (l0 :: some (.long x) :: L)[1]? = some (some (.long x)) from rfl)) (kk D base cy p l e s m args below meth c H locs ls hX hK hP hS hB hL)
theorem mOk.aloadN1n {l0 : Option Value} {q : Fin 4} (hd : decode M.2.1 pc = .ok (.aload_n q, 1)) (hq : (q : Nat) = 1) (kk : mOk M d mc ms (pc + 1) (l0 :: some .null :: L) (.null :: st) h n k Q) : mOk M d mc ms pc (l0 :: some .null :: L) st h n k Q :=
  fun D base cy p l e s m args below meth c H locs ls hX hK hP hS hB hL => lv_aload_nN hX.1 hX.2.1 hd hq (hL.2.2 1 _ (show (l0 :: some .null :: L)[1]? = some (some .null) from rfl)) (kk D base cy p l e s m args below meth c H locs ls hX hK hP hS hB hL)
theorem mOk.aloadN1 {l0 : Option Value} (hd : decode M.2.1 pc = .ok (.aload 1, 2)) (kk : mOk M d mc ms (pc + 2) (l0 :: some .null :: L) (.null :: st) h n k Q) : mOk M d mc ms pc (l0 :: some .null :: L) st h n k Q :=
  fun D base cy p l e s m args below meth c H locs ls hX hK hP hS hB hL => lv_aloadN hX.1 hX.2.1 hd (hL.2.2 1 _ (show (l0 :: some .null :: L)[1]? = some (some .null) from rfl)) (kk D base cy p l e s m args below meth c H locs ls hX hK hP hS hB hL)
theorem mOk.istore1n {l0 l1 : Option Value} {x : Int32} {q : Fin 4} (hd : decode M.2.1 pc = .ok (.istore_n q, 1)) (hq : (q : Nat) = 1) (hn : 1 < M.2.2.1) (hs : mi_s (l0 :: l1 :: L) 1 = true) (kk : mOk M d mc ms (pc + 1) (l0 :: some (.int x) :: L) st h n k Q) : mOk M d mc ms pc (l0 :: l1 :: L) (.int x :: st) h n k Q :=
  fun D base cy p l e s m args below meth c H locs ls hX hK hP hS hB hL => lv_istore_n (nL := M.2.2.1) (lv := mi_al base (l0 :: l1 :: L)) hX.1 hX.2.1 hd hq hL.has hn rfl (fun ls1 hl1 => kk D base cy p l e s m args below meth c H locs ls1 hX hK hP hS hB (mi_L.of1 (L := l0 :: l1 :: L) (i := 1) (v := .int x) hs hl1))
theorem mOk.istore1 {l0 l1 : Option Value} {x : Int32} (hd : decode M.2.1 pc = .ok (.istore 1, 2)) (hn : 1 < M.2.2.1) (hs : mi_s (l0 :: l1 :: L) 1 = true) (kk : mOk M d mc ms (pc + 2) (l0 :: some (.int x) :: L) st h n k Q) : mOk M d mc ms pc (l0 :: l1 :: L) (.int x :: st) h n k Q :=
  fun D base cy p l e s m args below meth c H locs ls hX hK hP hS hB hL => lv_istore (nL := M.2.2.1) (lv := mi_al base (l0 :: l1 :: L)) hX.1 hX.2.1 hd hL.has hn rfl (fun ls1 hl1 => kk D base cy p l e s m args below meth c H locs ls1 hX hK hP hS hB (mi_L.of1 (L := l0 :: l1 :: L) (i := 1) (v := .int x) hs hl1))
theorem mOk.astore1n {l0 l1 : Option Value} {x : Nat} {q : Fin 4} (hd : decode M.2.1 pc = .ok (.astore_n q, 1)) (hq : (q : Nat) = 1) (hn : 1 < M.2.2.1) (hs : mi_s (l0 :: l1 :: L) 1 = true) (kk : mOk M d mc ms (pc + 1) (l0 :: some (.ref x) :: L) st h n k Q) : mOk M d mc ms pc (l0 :: l1 :: L) (.ref x :: st) h n k Q :=
  fun D base cy p l e s m args below meth c H locs ls hX hK hP hS hB hL => lv_astore_n (nL := M.2.2.1) (lv := mi_al base (l0 :: l1 :: L)) hX.1 hX.2.1 hd hq hL.has hn rfl (fun ls1 hl1 => kk D base cy p l e s m args below meth c H locs ls1 hX hK hP hS hB (mi_L.of1 (L := l0 :: l1 :: L) (i := 1) (v := .ref x) hs hl1))
theorem mOk.astore1 {l0 l1 : Option Value} {x : Nat} (hd : decode M.2.1 pc = .ok (.astore 1, 2)) (hn : 1 < M.2.2.1) (hs : mi_s (l0 :: l1 :: L) 1 = true) (kk : mOk M d mc ms (pc + 2) (l0 :: some (.ref x) :: L) st h n k Q) : mOk M d mc ms pc (l0 :: l1 :: L) (.ref x :: st) h n k Q :=
  fun D base cy p l e s m args below meth c H locs ls hX hK hP hS hB hL => lv_astore (nL := M.2.2.1) (lv := mi_al base (l0 :: l1 :: L)) hX.1 hX.2.1 hd hL.has hn rfl (fun ls1 hl1 => kk D base cy p l e s m args below meth c H locs ls1 hX hK hP hS hB (mi_L.of1 (L := l0 :: l1 :: L) (i := 1) (v := .ref x) hs hl1))
theorem mOk.astoreN1n {l0 l1 : Option Value}  {q : Fin 4} (hd : decode M.2.1 pc = .ok (.astore_n q, 1)) (hq : (q : Nat) = 1) (hn : 1 < M.2.2.1) (hs : mi_s (l0 :: l1 :: L) 1 = true) (kk : mOk M d mc ms (pc + 1) (l0 :: some (.null) :: L) st h n k Q) : mOk M d mc ms pc (l0 :: l1 :: L) (.null :: st) h n k Q :=
  fun D base cy p l e s m args below meth c H locs ls hX hK hP hS hB hL => lv_astore_nN (nL := M.2.2.1) (lv := mi_al base (l0 :: l1 :: L)) hX.1 hX.2.1 hd hq hL.has hn rfl (fun ls1 hl1 => kk D base cy p l e s m args below meth c H locs ls1 hX hK hP hS hB (mi_L.of1 (L := l0 :: l1 :: L) (i := 1) (v := .null) hs hl1))
theorem mOk.astoreN1 {l0 l1 : Option Value}  (hd : decode M.2.1 pc = .ok (.astore 1, 2)) (hn : 1 < M.2.2.1) (hs : mi_s (l0 :: l1 :: L) 1 = true) (kk : mOk M d mc ms (pc + 2) (l0 :: some (.null) :: L) st h n k Q) : mOk M d mc ms pc (l0 :: l1 :: L) (.null :: st) h n k Q :=
  fun D base cy p l e s m args below meth c H locs ls hX hK hP hS hB hL => lv_astoreN (nL := M.2.2.1) (lv := mi_al base (l0 :: l1 :: L)) hX.1 hX.2.1 hd hL.has hn rfl (fun ls1 hl1 => kk D base cy p l e s m args below meth c H locs ls1 hX hK hP hS hB (mi_L.of1 (L := l0 :: l1 :: L) (i := 1) (v := .null) hs hl1))
theorem mOk.lstore1n {l0 l1 l2 : Option Value} {x : Int64} {q : Fin 4} (hd : decode M.2.1 pc = .ok (.lstore_n q, 1)) (hq : (q : Nat) = 1) (hn : 1 + 1 < M.2.2.1) (hs : mi_s (l0 :: l1 :: l2 :: L) 1 = true) (kk : mOk M d mc ms (pc + 1) (l0 :: some (.long x) :: none :: L) st h n k Q) : mOk M d mc ms pc (l0 :: l1 :: l2 :: L) (.long x :: st) h n k Q :=
  fun D base cy p l e s m args below meth c H locs ls hX hK hP hS hB hL => lv_lstore_n (nL := M.2.2.1) (lv := mi_al base (l0 :: l1 :: l2 :: L)) hX.1 hX.2.1 hd hq hL.has hn rfl (fun ls1 hl1 => kk D base cy p l e s m args below meth c H locs ls1 hX hK hP hS hB (mi_L.of2 (L := l0 :: l1 :: l2 :: L) (i := 1) (v := .long x) hs hl1))
theorem mOk.lstore1 {l0 l1 l2 : Option Value} {x : Int64} (hd : decode M.2.1 pc = .ok (.lstore 1, 2)) (hn : 1 + 1 < M.2.2.1) (hs : mi_s (l0 :: l1 :: l2 :: L) 1 = true) (kk : mOk M d mc ms (pc + 2) (l0 :: some (.long x) :: none :: L) st h n k Q) : mOk M d mc ms pc (l0 :: l1 :: l2 :: L) (.long x :: st) h n k Q :=
  fun D base cy p l e s m args below meth c H locs ls hX hK hP hS hB hL => lv_lstore (nL := M.2.2.1) (lv := mi_al base (l0 :: l1 :: l2 :: L)) hX.1 hX.2.1 hd hL.has hn rfl (fun ls1 hl1 => kk D base cy p l e s m args below meth c H locs ls1 hX hK hP hS hB (mi_L.of2 (L := l0 :: l1 :: l2 :: L) (i := 1) (v := .long x) hs hl1))
theorem mOk.iinc1 {l0 : Option Value} {x y : Int32} {z : Int} (hd : decode M.2.1 pc = .ok (.iinc 1 z, 3)) (hv : x + Int32.ofInt z = y) (hn : 1 < M.2.2.1) (hs : mi_s (l0 :: some (.int x) :: L) 1 = true) (kk : mOk M d mc ms (pc + 3) (l0 :: some (.int y) :: L) st h n k Q) : mOk M d mc ms pc (l0 :: some (.int x) :: L) st h n k Q := by
  intro D base cy p l e s m args below meth c H locs ls hX hK hP hS hB hL
  obtain ⟨j, hj⟩ := List.getElem?_of_mem (mi_al_in (base := base) (L := l0 :: some (.int x) :: L) (q := (1, .int x)) |>.mpr ⟨.int x, rfl, rfl⟩)
  exact lv_iinc (nL := M.2.2.1) (k := j) (lv := mi_al base (l0 :: some (.int x) :: L)) hX.1 hX.2.1 hd hL.has hj hv hn rfl (fun ls1 hl1 => kk D base cy p l e s m args below meth c H locs ls1 hX hK hP hS hB (mi_L.of1 (L := l0 :: some (.int x) :: L) (i := 1) (v := .int y) hs hl1))
theorem mOk.iload2n {l0 l1 : Option Value} {x : Int32} {q : Fin 4} (hd : decode M.2.1 pc = .ok (.iload_n q, 1)) (hq : (q : Nat) = 2) (kk : mOk M d mc ms (pc + 1) (l0 :: l1 :: some (.int x) :: L) (.int x :: st) h n k Q) : mOk M d mc ms pc (l0 :: l1 :: some (.int x) :: L) st h n k Q :=
  fun D base cy p l e s m args below meth c H locs ls hX hK hP hS hB hL => lv_iload_n hX.1 hX.2.1 hd hq (hL.2.2 2 _ (show (l0 :: l1 :: some (.int x) :: L)[2]? = some (some (.int x)) from rfl)) (kk D base cy p l e s m args below meth c H locs ls hX hK hP hS hB hL)
theorem mOk.iload2 {l0 l1 : Option Value} {x : Int32} (hd : decode M.2.1 pc = .ok (.iload 2, 2)) (kk : mOk M d mc ms (pc + 2) (l0 :: l1 :: some (.int x) :: L) (.int x :: st) h n k Q) : mOk M d mc ms pc (l0 :: l1 :: some (.int x) :: L) st h n k Q :=
  fun D base cy p l e s m args below meth c H locs ls hX hK hP hS hB hL => lv_iload hX.1 hX.2.1 hd (hL.2.2 2 _ (show (l0 :: l1 :: some (.int x) :: L)[2]? = some (some (.int x)) from rfl)) (kk D base cy p l e s m args below meth c H locs ls hX hK hP hS hB hL)
theorem mOk.aload2n {l0 l1 : Option Value} {x : Nat} {q : Fin 4} (hd : decode M.2.1 pc = .ok (.aload_n q, 1)) (hq : (q : Nat) = 2) (kk : mOk M d mc ms (pc + 1) (l0 :: l1 :: some (.ref x) :: L) (.ref x :: st) h n k Q) : mOk M d mc ms pc (l0 :: l1 :: some (.ref x) :: L) st h n k Q :=
  fun D base cy p l e s m args below meth c H locs ls hX hK hP hS hB hL => lv_aload_n hX.1 hX.2.1 hd hq (hL.2.2 2 _ (show (l0 :: l1 :: some (.ref x) :: L)[2]? = some (some (.ref x)) from rfl)) (kk D base cy p l e s m args below meth c H locs ls hX hK hP hS hB hL)
theorem mOk.aload2 {l0 l1 : Option Value} {x : Nat} (hd : decode M.2.1 pc = .ok (.aload 2, 2)) (kk : mOk M d mc ms (pc + 2) (l0 :: l1 :: some (.ref x) :: L) (.ref x :: st) h n k Q) : mOk M d mc ms pc (l0 :: l1 :: some (.ref x) :: L) st h n k Q :=
  fun D base cy p l e s m args below meth c H locs ls hX hK hP hS hB hL => lv_aload hX.1 hX.2.1 hd (hL.2.2 2 _ (show (l0 :: l1 :: some (.ref x) :: L)[2]? = some (some (.ref x)) from rfl)) (kk D base cy p l e s m args below meth c H locs ls hX hK hP hS hB hL)
theorem mOk.lload2n {l0 l1 : Option Value} {x : Int64} {q : Fin 4} (hd : decode M.2.1 pc = .ok (.lload_n q, 1)) (hq : (q : Nat) = 2) (kk : mOk M d mc ms (pc + 1) (l0 :: l1 :: some (.long x) :: L) (.long x :: st) h n k Q) : mOk M d mc ms pc (l0 :: l1 :: some (.long x) :: L) st h n k Q :=
  fun D base cy p l e s m args below meth c H locs ls hX hK hP hS hB hL => lv_lload_n hX.1 hX.2.1 hd hq (hL.2.2 2 _ (show (l0 :: l1 :: some (.long x) :: L)[2]? = some (some (.long x)) from rfl)) (kk D base cy p l e s m args below meth c H locs ls hX hK hP hS hB hL)
theorem mOk.lload2 {l0 l1 : Option Value} {x : Int64} (hd : decode M.2.1 pc = .ok (.lload 2, 2)) (kk : mOk M d mc ms (pc + 2) (l0 :: l1 :: some (.long x) :: L) (.long x :: st) h n k Q) : mOk M d mc ms pc (l0 :: l1 :: some (.long x) :: L) st h n k Q :=
  fun D base cy p l e s m args below meth c H locs ls hX hK hP hS hB hL => lv_lload hX.1 hX.2.1 hd (hL.2.2 2 _ (show (l0 :: l1 :: some (.long x) :: L)[2]? = some (some (.long x)) from rfl)) (kk D base cy p l e s m args below meth c H locs ls hX hK hP hS hB hL)
theorem mOk.aloadN2n {l0 l1 : Option Value} {q : Fin 4} (hd : decode M.2.1 pc = .ok (.aload_n q, 1)) (hq : (q : Nat) = 2) (kk : mOk M d mc ms (pc + 1) (l0 :: l1 :: some .null :: L) (.null :: st) h n k Q) : mOk M d mc ms pc (l0 :: l1 :: some .null :: L) st h n k Q :=
  fun D base cy p l e s m args below meth c H locs ls hX hK hP hS hB hL => lv_aload_nN hX.1 hX.2.1 hd hq (hL.2.2 2 _ (show (l0 :: l1 :: some .null :: L)[2]? = some (some .null) from rfl)) (kk D base cy p l e s m args below meth c H locs ls hX hK hP hS hB hL)
theorem mOk.aloadN2 {l0 l1 : Option Value} (hd : decode M.2.1 pc = .ok (.aload 2, 2)) (kk : mOk M d mc ms (pc + 2) (l0 :: l1 :: some .null :: L) (.null :: st) h n k Q) : mOk M d mc ms pc (l0 :: l1 :: some .null :: L) st h n k Q :=
  fun D base cy p l e s m args below meth c H locs ls hX hK hP hS hB hL => lv_aloadN hX.1 hX.2.1 hd (hL.2.2 2 _ (show (l0 :: l1 :: some .null :: L)[2]? = some (some .null) from rfl)) (kk D base cy p l e s m args below meth c H locs ls hX hK hP hS hB hL)
theorem mOk.istore2n {l0 l1 l2 : Option Value} {x : Int32} {q : Fin 4} (hd : decode M.2.1 pc = .ok (.istore_n q, 1)) (hq : (q : Nat) = 2) (hn : 2 < M.2.2.1) (hs : mi_s (l0 :: l1 :: l2 :: L) 2 = true) (kk : mOk M d mc ms (pc + 1) (l0 :: l1 :: some (.int x) :: L) st h n k Q) : mOk M d mc ms pc (l0 :: l1 :: l2 :: L) (.int x :: st) h n k Q :=
  fun D base cy p l e s m args below meth c H locs ls hX hK hP hS hB hL => lv_istore_n (nL := M.2.2.1) (lv := mi_al base (l0 :: l1 :: l2 :: L)) hX.1 hX.2.1 hd hq hL.has hn rfl (fun ls1 hl1 => kk D base cy p l e s m args below meth c H locs ls1 hX hK hP hS hB (mi_L.of1 (L := l0 :: l1 :: l2 :: L) (i := 2) (v := .int x) hs hl1))
theorem mOk.istore2 {l0 l1 l2 : Option Value} {x : Int32} (hd : decode M.2.1 pc = .ok (.istore 2, 2)) (hn : 2 < M.2.2.1) (hs : mi_s (l0 :: l1 :: l2 :: L) 2 = true) (kk : mOk M d mc ms (pc + 2) (l0 :: l1 :: some (.int x) :: L) st h n k Q) : mOk M d mc ms pc (l0 :: l1 :: l2 :: L) (.int x :: st) h n k Q :=
  fun D base cy p l e s m args below meth c H locs ls hX hK hP hS hB hL => lv_istore (nL := M.2.2.1) (lv := mi_al base (l0 :: l1 :: l2 :: L)) hX.1 hX.2.1 hd hL.has hn rfl (fun ls1 hl1 => kk D base cy p l e s m args below meth c H locs ls1 hX hK hP hS hB (mi_L.of1 (L := l0 :: l1 :: l2 :: L) (i := 2) (v := .int x) hs hl1))
theorem mOk.astore2n {l0 l1 l2 : Option Value} {x : Nat} {q : Fin 4} (hd : decode M.2.1 pc = .ok (.astore_n q, 1)) (hq : (q : Nat) = 2) (hn : 2 < M.2.2.1) (hs : mi_s (l0 :: l1 :: l2 :: L) 2 = true) (kk : mOk M d mc ms (pc + 1) (l0 :: l1 :: some (.ref x) :: L) st h n k Q) : mOk M d mc ms pc (l0 :: l1 :: l2 :: L) (.ref x :: st) h n k Q :=
  fun D base cy p l e s m args below meth c H locs ls hX hK hP hS hB hL => lv_astore_n (nL := M.2.2.1) (lv := mi_al base (l0 :: l1 :: l2 :: L)) hX.1 hX.2.1 hd hq hL.has hn rfl (fun ls1 hl1 => kk D base cy p l e s m args below meth c H locs ls1 hX hK hP hS hB (mi_L.of1 (L := l0 :: l1 :: l2 :: L) (i := 2) (v := .ref x) hs hl1))
theorem mOk.astore2 {l0 l1 l2 : Option Value} {x : Nat} (hd : decode M.2.1 pc = .ok (.astore 2, 2)) (hn : 2 < M.2.2.1) (hs : mi_s (l0 :: l1 :: l2 :: L) 2 = true) (kk : mOk M d mc ms (pc + 2) (l0 :: l1 :: some (.ref x) :: L) st h n k Q) : mOk M d mc ms pc (l0 :: l1 :: l2 :: L) (.ref x :: st) h n k Q :=
  fun D base cy p l e s m args below meth c H locs ls hX hK hP hS hB hL => lv_astore (nL := M.2.2.1) (lv := mi_al base (l0 :: l1 :: l2 :: L)) hX.1 hX.2.1 hd hL.has hn rfl (fun ls1 hl1 => kk D base cy p l e s m args below meth c H locs ls1 hX hK hP hS hB (mi_L.of1 (L := l0 :: l1 :: l2 :: L) (i := 2) (v := .ref x) hs hl1))
theorem mOk.astoreN2n {l0 l1 l2 : Option Value}  {q : Fin 4} (hd : decode M.2.1 pc = .ok (.astore_n q, 1)) (hq : (q : Nat) = 2) (hn : 2 < M.2.2.1) (hs : mi_s (l0 :: l1 :: l2 :: L) 2 = true) (kk : mOk M d mc ms (pc + 1) (l0 :: l1 :: some (.null) :: L) st h n k Q) : mOk M d mc ms pc (l0 :: l1 :: l2 :: L) (.null :: st) h n k Q :=
  fun D base cy p l e s m args below meth c H locs ls hX hK hP hS hB hL => lv_astore_nN (nL := M.2.2.1) (lv := mi_al base (l0 :: l1 :: l2 :: L)) hX.1 hX.2.1 hd hq hL.has hn rfl (fun ls1 hl1 => kk D base cy p l e s m args below meth c H locs ls1 hX hK hP hS hB (mi_L.of1 (L := l0 :: l1 :: l2 :: L) (i := 2) (v := .null) hs hl1))
theorem mOk.astoreN2 {l0 l1 l2 : Option Value}  (hd : decode M.2.1 pc = .ok (.astore 2, 2)) (hn : 2 < M.2.2.1) (hs : mi_s (l0 :: l1 :: l2 :: L) 2 = true) (kk : mOk M d mc ms (pc + 2) (l0 :: l1 :: some (.null) :: L) st h n k Q) : mOk M d mc ms pc (l0 :: l1 :: l2 :: L) (.null :: st) h n k Q :=
  fun D base cy p l e s m args below meth c H locs ls hX hK hP hS hB hL => lv_astoreN (nL := M.2.2.1) (lv := mi_al base (l0 :: l1 :: l2 :: L)) hX.1 hX.2.1 hd hL.has hn rfl (fun ls1 hl1 => kk D base cy p l e s m args below meth c H locs ls1 hX hK hP hS hB (mi_L.of1 (L := l0 :: l1 :: l2 :: L) (i := 2) (v := .null) hs hl1))
theorem mOk.lstore2n {l0 l1 l2 l3 : Option Value} {x : Int64} {q : Fin 4} (hd : decode M.2.1 pc = .ok (.lstore_n q, 1)) (hq : (q : Nat) = 2) (hn : 2 + 1 < M.2.2.1) (hs : mi_s (l0 :: l1 :: l2 :: l3 :: L) 2 = true) (kk : mOk M d mc ms (pc + 1) (l0 :: l1 :: some (.long x) :: none :: L) st h n k Q) : mOk M d mc ms pc (l0 :: l1 :: l2 :: l3 :: L) (.long x :: st) h n k Q :=
  fun D base cy p l e s m args below meth c H locs ls hX hK hP hS hB hL => lv_lstore_n (nL := M.2.2.1) (lv := mi_al base (l0 :: l1 :: l2 :: l3 :: L)) hX.1 hX.2.1 hd hq hL.has hn rfl (fun ls1 hl1 => kk D base cy p l e s m args below meth c H locs ls1 hX hK hP hS hB (mi_L.of2 (L := l0 :: l1 :: l2 :: l3 :: L) (i := 2) (v := .long x) hs hl1))
theorem mOk.lstore2 {l0 l1 l2 l3 : Option Value} {x : Int64} (hd : decode M.2.1 pc = .ok (.lstore 2, 2)) (hn : 2 + 1 < M.2.2.1) (hs : mi_s (l0 :: l1 :: l2 :: l3 :: L) 2 = true) (kk : mOk M d mc ms (pc + 2) (l0 :: l1 :: some (.long x) :: none :: L) st h n k Q) : mOk M d mc ms pc (l0 :: l1 :: l2 :: l3 :: L) (.long x :: st) h n k Q :=
  fun D base cy p l e s m args below meth c H locs ls hX hK hP hS hB hL => lv_lstore (nL := M.2.2.1) (lv := mi_al base (l0 :: l1 :: l2 :: l3 :: L)) hX.1 hX.2.1 hd hL.has hn rfl (fun ls1 hl1 => kk D base cy p l e s m args below meth c H locs ls1 hX hK hP hS hB (mi_L.of2 (L := l0 :: l1 :: l2 :: l3 :: L) (i := 2) (v := .long x) hs hl1))
theorem mOk.iinc2 {l0 l1 : Option Value} {x y : Int32} {z : Int} (hd : decode M.2.1 pc = .ok (.iinc 2 z, 3)) (hv : x + Int32.ofInt z = y) (hn : 2 < M.2.2.1) (hs : mi_s (l0 :: l1 :: some (.int x) :: L) 2 = true) (kk : mOk M d mc ms (pc + 3) (l0 :: l1 :: some (.int y) :: L) st h n k Q) : mOk M d mc ms pc (l0 :: l1 :: some (.int x) :: L) st h n k Q := by
  intro D base cy p l e s m args below meth c H locs ls hX hK hP hS hB hL
  obtain ⟨j, hj⟩ := List.getElem?_of_mem (mi_al_in (base := base) (L := l0 :: l1 :: some (.int x) :: L) (q := (2, .int x)) |>.mpr ⟨.int x, rfl, rfl⟩)
  exact lv_iinc (nL := M.2.2.1) (k := j) (lv := mi_al base (l0 :: l1 :: some (.int x) :: L)) hX.1 hX.2.1 hd hL.has hj hv hn rfl (fun ls1 hl1 => kk D base cy p l e s m args below meth c H locs ls1 hX hK hP hS hB (mi_L.of1 (L := l0 :: l1 :: some (.int x) :: L) (i := 2) (v := .int y) hs hl1))
theorem mOk.iload3n {l0 l1 l2 : Option Value} {x : Int32} {q : Fin 4} (hd : decode M.2.1 pc = .ok (.iload_n q, 1)) (hq : (q : Nat) = 3) (kk : mOk M d mc ms (pc + 1) (l0 :: l1 :: l2 :: some (.int x) :: L) (.int x :: st) h n k Q) : mOk M d mc ms pc (l0 :: l1 :: l2 :: some (.int x) :: L) st h n k Q :=
  fun D base cy p l e s m args below meth c H locs ls hX hK hP hS hB hL => lv_iload_n hX.1 hX.2.1 hd hq (hL.2.2 3 _ (show (l0 :: l1 :: l2 :: some (.int x) :: L)[3]? = some (some (.int x)) from rfl)) (kk D base cy p l e s m args below meth c H locs ls hX hK hP hS hB hL)
theorem mOk.iload3 {l0 l1 l2 : Option Value} {x : Int32} (hd : decode M.2.1 pc = .ok (.iload 3, 2)) (kk : mOk M d mc ms (pc + 2) (l0 :: l1 :: l2 :: some (.int x) :: L) (.int x :: st) h n k Q) : mOk M d mc ms pc (l0 :: l1 :: l2 :: some (.int x) :: L) st h n k Q :=
  fun D base cy p l e s m args below meth c H locs ls hX hK hP hS hB hL => lv_iload hX.1 hX.2.1 hd (hL.2.2 3 _ (show (l0 :: l1 :: l2 :: some (.int x) :: L)[3]? = some (some (.int x)) from rfl)) (kk D base cy p l e s m args below meth c H locs ls hX hK hP hS hB hL)
theorem mOk.aload3n {l0 l1 l2 : Option Value} {x : Nat} {q : Fin 4} (hd : decode M.2.1 pc = .ok (.aload_n q, 1)) (hq : (q : Nat) = 3) (kk : mOk M d mc ms (pc + 1) (l0 :: l1 :: l2 :: some (.ref x) :: L) (.ref x :: st) h n k Q) : mOk M d mc ms pc (l0 :: l1 :: l2 :: some (.ref x) :: L) st h n k Q :=
  fun D base cy p l e s m args below meth c H locs ls hX hK hP hS hB hL => lv_aload_n hX.1 hX.2.1 hd hq (hL.2.2 3 _ (show (l0 :: l1 :: l2 :: some (.ref x) :: L)[3]? = some (some (.ref x)) from rfl)) (kk D base cy p l e s m args below meth c H locs ls hX hK hP hS hB hL)
theorem mOk.aload3 {l0 l1 l2 : Option Value} {x : Nat} (hd : decode M.2.1 pc = .ok (.aload 3, 2)) (kk : mOk M d mc ms (pc + 2) (l0 :: l1 :: l2 :: some (.ref x) :: L) (.ref x :: st) h n k Q) : mOk M d mc ms pc (l0 :: l1 :: l2 :: some (.ref x) :: L) st h n k Q :=
  fun D base cy p l e s m args below meth c H locs ls hX hK hP hS hB hL => lv_aload hX.1 hX.2.1 hd (hL.2.2 3 _ (show (l0 :: l1 :: l2 :: some (.ref x) :: L)[3]? = some (some (.ref x)) from rfl)) (kk D base cy p l e s m args below meth c H locs ls hX hK hP hS hB hL)
theorem mOk.lload3n {l0 l1 l2 : Option Value} {x : Int64} {q : Fin 4} (hd : decode M.2.1 pc = .ok (.lload_n q, 1)) (hq : (q : Nat) = 3) (kk : mOk M d mc ms (pc + 1) (l0 :: l1 :: l2 :: some (.long x) :: L) (.long x :: st) h n k Q) : mOk M d mc ms pc (l0 :: l1 :: l2 :: some (.long x) :: L) st h n k Q :=
  fun D base cy p l e s m args below meth c H locs ls hX hK hP hS hB hL => lv_lload_n hX.1 hX.2.1 hd hq (hL.2.2 3 _ (show (l0 :: l1 :: l2 :: some (.long x) :: L)[3]? = some (some (.long x)) from rfl)) (kk D base cy p l e s m args below meth c H locs ls hX hK hP hS hB hL)
theorem mOk.lload3 {l0 l1 l2 : Option Value} {x : Int64} (hd : decode M.2.1 pc = .ok (.lload 3, 2)) (kk : mOk M d mc ms (pc + 2) (l0 :: l1 :: l2 :: some (.long x) :: L) (.long x :: st) h n k Q) : mOk M d mc ms pc (l0 :: l1 :: l2 :: some (.long x) :: L) st h n k Q :=
  fun D base cy p l e s m args below meth c H locs ls hX hK hP hS hB hL => lv_lload hX.1 hX.2.1 hd (hL.2.2 3 _ (show (l0 :: l1 :: l2 :: some (.long x) :: L)[3]? = some (some (.long x)) from rfl)) (kk D base cy p l e s m args below meth c H locs ls hX hK hP hS hB hL)
theorem mOk.aloadN3n {l0 l1 l2 : Option Value} {q : Fin 4} (hd : decode M.2.1 pc = .ok (.aload_n q, 1)) (hq : (q : Nat) = 3) (kk : mOk M d mc ms (pc + 1) (l0 :: l1 :: l2 :: some .null :: L) (.null :: st) h n k Q) : mOk M d mc ms pc (l0 :: l1 :: l2 :: some .null :: L) st h n k Q :=
  fun D base cy p l e s m args below meth c H locs ls hX hK hP hS hB hL => lv_aload_nN hX.1 hX.2.1 hd hq (hL.2.2 3 _ (show (l0 :: l1 :: l2 :: some .null :: L)[3]? = some (some .null) from rfl)) (kk D base cy p l e s m args below meth c H locs ls hX hK hP hS hB hL)
theorem mOk.aloadN3 {l0 l1 l2 : Option Value} (hd : decode M.2.1 pc = .ok (.aload 3, 2)) (kk : mOk M d mc ms (pc + 2) (l0 :: l1 :: l2 :: some .null :: L) (.null :: st) h n k Q) : mOk M d mc ms pc (l0 :: l1 :: l2 :: some .null :: L) st h n k Q :=
  fun D base cy p l e s m args below meth c H locs ls hX hK hP hS hB hL => lv_aloadN hX.1 hX.2.1 hd (hL.2.2 3 _ (show (l0 :: l1 :: l2 :: some .null :: L)[3]? = some (some .null) from rfl)) (kk D base cy p l e s m args below meth c H locs ls hX hK hP hS hB hL)
theorem mOk.istore3n {l0 l1 l2 l3 : Option Value} {x : Int32} {q : Fin 4} (hd : decode M.2.1 pc = .ok (.istore_n q, 1)) (hq : (q : Nat) = 3) (hn : 3 < M.2.2.1) (hs : mi_s (l0 :: l1 :: l2 :: l3 :: L) 3 = true) (kk : mOk M d mc ms (pc + 1) (l0 :: l1 :: l2 :: some (.int x) :: L) st h n k Q) : mOk M d mc ms pc (l0 :: l1 :: l2 :: l3 :: L) (.int x :: st) h n k Q :=
  fun D base cy p l e s m args below meth c H locs ls hX hK hP hS hB hL => lv_istore_n (nL := M.2.2.1) (lv := mi_al base (l0 :: l1 :: l2 :: l3 :: L)) hX.1 hX.2.1 hd hq hL.has hn rfl (fun ls1 hl1 => kk D base cy p l e s m args below meth c H locs ls1 hX hK hP hS hB (mi_L.of1 (L := l0 :: l1 :: l2 :: l3 :: L) (i := 3) (v := .int x) hs hl1))
theorem mOk.istore3 {l0 l1 l2 l3 : Option Value} {x : Int32} (hd : decode M.2.1 pc = .ok (.istore 3, 2)) (hn : 3 < M.2.2.1) (hs : mi_s (l0 :: l1 :: l2 :: l3 :: L) 3 = true) (kk : mOk M d mc ms (pc + 2) (l0 :: l1 :: l2 :: some (.int x) :: L) st h n k Q) : mOk M d mc ms pc (l0 :: l1 :: l2 :: l3 :: L) (.int x :: st) h n k Q :=
  fun D base cy p l e s m args below meth c H locs ls hX hK hP hS hB hL => lv_istore (nL := M.2.2.1) (lv := mi_al base (l0 :: l1 :: l2 :: l3 :: L)) hX.1 hX.2.1 hd hL.has hn rfl (fun ls1 hl1 => kk D base cy p l e s m args below meth c H locs ls1 hX hK hP hS hB (mi_L.of1 (L := l0 :: l1 :: l2 :: l3 :: L) (i := 3) (v := .int x) hs hl1))
theorem mOk.astore3n {l0 l1 l2 l3 : Option Value} {x : Nat} {q : Fin 4} (hd : decode M.2.1 pc = .ok (.astore_n q, 1)) (hq : (q : Nat) = 3) (hn : 3 < M.2.2.1) (hs : mi_s (l0 :: l1 :: l2 :: l3 :: L) 3 = true) (kk : mOk M d mc ms (pc + 1) (l0 :: l1 :: l2 :: some (.ref x) :: L) st h n k Q) : mOk M d mc ms pc (l0 :: l1 :: l2 :: l3 :: L) (.ref x :: st) h n k Q :=
  fun D base cy p l e s m args below meth c H locs ls hX hK hP hS hB hL => lv_astore_n (nL := M.2.2.1) (lv := mi_al base (l0 :: l1 :: l2 :: l3 :: L)) hX.1 hX.2.1 hd hq hL.has hn rfl (fun ls1 hl1 => kk D base cy p l e s m args below meth c H locs ls1 hX hK hP hS hB (mi_L.of1 (L := l0 :: l1 :: l2 :: l3 :: L) (i := 3) (v := .ref x) hs hl1))
theorem mOk.astore3 {l0 l1 l2 l3 : Option Value} {x : Nat} (hd : decode M.2.1 pc = .ok (.astore 3, 2)) (hn : 3 < M.2.2.1) (hs : mi_s (l0 :: l1 :: l2 :: l3 :: L) 3 = true) (kk : mOk M d mc ms (pc + 2) (l0 :: l1 :: l2 :: some (.ref x) :: L) st h n k Q) : mOk M d mc ms pc (l0 :: l1 :: l2 :: l3 :: L) (.ref x :: st) h n k Q :=
  fun D base cy p l e s m args below meth c H locs ls hX hK hP hS hB hL => lv_astore (nL := M.2.2.1) (lv := mi_al base (l0 :: l1 :: l2 :: l3 :: L)) hX.1 hX.2.1 hd hL.has hn rfl (fun ls1 hl1 => kk D base cy p l e s m args below meth c H locs ls1 hX hK hP hS hB (mi_L.of1 (L := l0 :: l1 :: l2 :: l3 :: L) (i := 3) (v := .ref x) hs hl1))
theorem mOk.astoreN3n {l0 l1 l2 l3 : Option Value}  {q : Fin 4} (hd : decode M.2.1 pc = .ok (.astore_n q, 1)) (hq : (q : Nat) = 3) (hn : 3 < M.2.2.1) (hs : mi_s (l0 :: l1 :: l2 :: l3 :: L) 3 = true) (kk : mOk M d mc ms (pc + 1) (l0 :: l1 :: l2 :: some (.null) :: L) st h n k Q) : mOk M d mc ms pc (l0 :: l1 :: l2 :: l3 :: L) (.null :: st) h n k Q :=
  fun D base cy p l e s m args below meth c H locs ls hX hK hP hS hB hL => lv_astore_nN (nL := M.2.2.1) (lv := mi_al base (l0 :: l1 :: l2 :: l3 :: L)) hX.1 hX.2.1 hd hq hL.has hn rfl (fun ls1 hl1 => kk D base cy p l e s m args below meth c H locs ls1 hX hK hP hS hB (mi_L.of1 (L := l0 :: l1 :: l2 :: l3 :: L) (i := 3) (v := .null) hs hl1))
theorem mOk.astoreN3 {l0 l1 l2 l3 : Option Value}  (hd : decode M.2.1 pc = .ok (.astore 3, 2)) (hn : 3 < M.2.2.1) (hs : mi_s (l0 :: l1 :: l2 :: l3 :: L) 3 = true) (kk : mOk M d mc ms (pc + 2) (l0 :: l1 :: l2 :: some (.null) :: L) st h n k Q) : mOk M d mc ms pc (l0 :: l1 :: l2 :: l3 :: L) (.null :: st) h n k Q :=
  fun D base cy p l e s m args below meth c H locs ls hX hK hP hS hB hL => lv_astoreN (nL := M.2.2.1) (lv := mi_al base (l0 :: l1 :: l2 :: l3 :: L)) hX.1 hX.2.1 hd hL.has hn rfl (fun ls1 hl1 => kk D base cy p l e s m args below meth c H locs ls1 hX hK hP hS hB (mi_L.of1 (L := l0 :: l1 :: l2 :: l3 :: L) (i := 3) (v := .null) hs hl1))
theorem mOk.lstore3n {l0 l1 l2 l3 l4 : Option Value} {x : Int64} {q : Fin 4} (hd : decode M.2.1 pc = .ok (.lstore_n q, 1)) (hq : (q : Nat) = 3) (hn : 3 + 1 < M.2.2.1) (hs : mi_s (l0 :: l1 :: l2 :: l3 :: l4 :: L) 3 = true) (kk : mOk M d mc ms (pc + 1) (l0 :: l1 :: l2 :: some (.long x) :: none :: L) st h n k Q) : mOk M d mc ms pc (l0 :: l1 :: l2 :: l3 :: l4 :: L) (.long x :: st) h n k Q :=
  fun D base cy p l e s m args below meth c H locs ls hX hK hP hS hB hL => lv_lstore_n (nL := M.2.2.1) (lv := mi_al base (l0 :: l1 :: l2 :: l3 :: l4 :: L)) hX.1 hX.2.1 hd hq hL.has hn rfl (fun ls1 hl1 => kk D base cy p l e s m args below meth c H locs ls1 hX hK hP hS hB (mi_L.of2 (L := l0 :: l1 :: l2 :: l3 :: l4 :: L) (i := 3) (v := .long x) hs hl1))
theorem mOk.lstore3 {l0 l1 l2 l3 l4 : Option Value} {x : Int64} (hd : decode M.2.1 pc = .ok (.lstore 3, 2)) (hn : 3 + 1 < M.2.2.1) (hs : mi_s (l0 :: l1 :: l2 :: l3 :: l4 :: L) 3 = true) (kk : mOk M d mc ms (pc + 2) (l0 :: l1 :: l2 :: some (.long x) :: none :: L) st h n k Q) : mOk M d mc ms pc (l0 :: l1 :: l2 :: l3 :: l4 :: L) (.long x :: st) h n k Q :=
  fun D base cy p l e s m args below meth c H locs ls hX hK hP hS hB hL => lv_lstore (nL := M.2.2.1) (lv := mi_al base (l0 :: l1 :: l2 :: l3 :: l4 :: L)) hX.1 hX.2.1 hd hL.has hn rfl (fun ls1 hl1 => kk D base cy p l e s m args below meth c H locs ls1 hX hK hP hS hB (mi_L.of2 (L := l0 :: l1 :: l2 :: l3 :: l4 :: L) (i := 3) (v := .long x) hs hl1))
theorem mOk.iinc3 {l0 l1 l2 : Option Value} {x y : Int32} {z : Int} (hd : decode M.2.1 pc = .ok (.iinc 3 z, 3)) (hv : x + Int32.ofInt z = y) (hn : 3 < M.2.2.1) (hs : mi_s (l0 :: l1 :: l2 :: some (.int x) :: L) 3 = true) (kk : mOk M d mc ms (pc + 3) (l0 :: l1 :: l2 :: some (.int y) :: L) st h n k Q) : mOk M d mc ms pc (l0 :: l1 :: l2 :: some (.int x) :: L) st h n k Q := by
  intro D base cy p l e s m args below meth c H locs ls hX hK hP hS hB hL
  obtain ⟨j, hj⟩ := List.getElem?_of_mem (mi_al_in (base := base) (L := l0 :: l1 :: l2 :: some (.int x) :: L) (q := (3, .int x)) |>.mpr ⟨.int x, rfl, rfl⟩)
  exact lv_iinc (nL := M.2.2.1) (k := j) (lv := mi_al base (l0 :: l1 :: l2 :: some (.int x) :: L)) hX.1 hX.2.1 hd hL.has hj hv hn rfl (fun ls1 hl1 => kk D base cy p l e s m args below meth c H locs ls1 hX hK hP hS hB (mi_L.of1 (L := l0 :: l1 :: l2 :: some (.int x) :: L) (i := 3) (v := .int y) hs hl1))
theorem mOk.iload4 {l0 l1 l2 l3 : Option Value} {x : Int32} (hd : decode M.2.1 pc = .ok (.iload 4, 2)) (kk : mOk M d mc ms (pc + 2) (l0 :: l1 :: l2 :: l3 :: some (.int x) :: L) (.int x :: st) h n k Q) : mOk M d mc ms pc (l0 :: l1 :: l2 :: l3 :: some (.int x) :: L) st h n k Q :=
  fun D base cy p l e s m args below meth c H locs ls hX hK hP hS hB hL => lv_iload hX.1 hX.2.1 hd (hL.2.2 4 _ (show (l0 :: l1 :: l2 :: l3 :: some (.int x) :: L)[4]? = some (some (.int x)) from rfl)) (kk D base cy p l e s m args below meth c H locs ls hX hK hP hS hB hL)
theorem mOk.aload4 {l0 l1 l2 l3 : Option Value} {x : Nat} (hd : decode M.2.1 pc = .ok (.aload 4, 2)) (kk : mOk M d mc ms (pc + 2) (l0 :: l1 :: l2 :: l3 :: some (.ref x) :: L) (.ref x :: st) h n k Q) : mOk M d mc ms pc (l0 :: l1 :: l2 :: l3 :: some (.ref x) :: L) st h n k Q :=
  fun D base cy p l e s m args below meth c H locs ls hX hK hP hS hB hL => lv_aload hX.1 hX.2.1 hd (hL.2.2 4 _ (show (l0 :: l1 :: l2 :: l3 :: some (.ref x) :: L)[4]? = some (some (.ref x)) from rfl)) (kk D base cy p l e s m args below meth c H locs ls hX hK hP hS hB hL)
theorem mOk.lload4 {l0 l1 l2 l3 : Option Value} {x : Int64} (hd : decode M.2.1 pc = .ok (.lload 4, 2)) (kk : mOk M d mc ms (pc + 2) (l0 :: l1 :: l2 :: l3 :: some (.long x) :: L) (.long x :: st) h n k Q) : mOk M d mc ms pc (l0 :: l1 :: l2 :: l3 :: some (.long x) :: L) st h n k Q :=
  fun D base cy p l e s m args below meth c H locs ls hX hK hP hS hB hL => lv_lload hX.1 hX.2.1 hd (hL.2.2 4 _ (show (l0 :: l1 :: l2 :: l3 :: some (.long x) :: L)[4]? = some (some (.long x)) from rfl)) (kk D base cy p l e s m args below meth c H locs ls hX hK hP hS hB hL)
theorem mOk.aloadN4 {l0 l1 l2 l3 : Option Value} (hd : decode M.2.1 pc = .ok (.aload 4, 2)) (kk : mOk M d mc ms (pc + 2) (l0 :: l1 :: l2 :: l3 :: some .null :: L) (.null :: st) h n k Q) : mOk M d mc ms pc (l0 :: l1 :: l2 :: l3 :: some .null :: L) st h n k Q :=
  fun D base cy p l e s m args below meth c H locs ls hX hK hP hS hB hL => lv_aloadN hX.1 hX.2.1 hd (hL.2.2 4 _ (show (l0 :: l1 :: l2 :: l3 :: some .null :: L)[4]? = some (some .null) from rfl)) (kk D base cy p l e s m args below meth c H locs ls hX hK hP hS hB hL)
theorem mOk.istore4 {l0 l1 l2 l3 l4 : Option Value} {x : Int32} (hd : decode M.2.1 pc = .ok (.istore 4, 2)) (hn : 4 < M.2.2.1) (hs : mi_s (l0 :: l1 :: l2 :: l3 :: l4 :: L) 4 = true) (kk : mOk M d mc ms (pc + 2) (l0 :: l1 :: l2 :: l3 :: some (.int x) :: L) st h n k Q) : mOk M d mc ms pc (l0 :: l1 :: l2 :: l3 :: l4 :: L) (.int x :: st) h n k Q :=
  fun D base cy p l e s m args below meth c H locs ls hX hK hP hS hB hL => lv_istore (nL := M.2.2.1) (lv := mi_al base (l0 :: l1 :: l2 :: l3 :: l4 :: L)) hX.1 hX.2.1 hd hL.has hn rfl (fun ls1 hl1 => kk D base cy p l e s m args below meth c H locs ls1 hX hK hP hS hB (mi_L.of1 (L := l0 :: l1 :: l2 :: l3 :: l4 :: L) (i := 4) (v := .int x) hs hl1))
theorem mOk.astore4 {l0 l1 l2 l3 l4 : Option Value} {x : Nat} (hd : decode M.2.1 pc = .ok (.astore 4, 2)) (hn : 4 < M.2.2.1) (hs : mi_s (l0 :: l1 :: l2 :: l3 :: l4 :: L) 4 = true) (kk : mOk M d mc ms (pc + 2) (l0 :: l1 :: l2 :: l3 :: some (.ref x) :: L) st h n k Q) : mOk M d mc ms pc (l0 :: l1 :: l2 :: l3 :: l4 :: L) (.ref x :: st) h n k Q :=
  fun D base cy p l e s m args below meth c H locs ls hX hK hP hS hB hL => lv_astore (nL := M.2.2.1) (lv := mi_al base (l0 :: l1 :: l2 :: l3 :: l4 :: L)) hX.1 hX.2.1 hd hL.has hn rfl (fun ls1 hl1 => kk D base cy p l e s m args below meth c H locs ls1 hX hK hP hS hB (mi_L.of1 (L := l0 :: l1 :: l2 :: l3 :: l4 :: L) (i := 4) (v := .ref x) hs hl1))
theorem mOk.astoreN4 {l0 l1 l2 l3 l4 : Option Value}  (hd : decode M.2.1 pc = .ok (.astore 4, 2)) (hn : 4 < M.2.2.1) (hs : mi_s (l0 :: l1 :: l2 :: l3 :: l4 :: L) 4 = true) (kk : mOk M d mc ms (pc + 2) (l0 :: l1 :: l2 :: l3 :: some (.null) :: L) st h n k Q) : mOk M d mc ms pc (l0 :: l1 :: l2 :: l3 :: l4 :: L) (.null :: st) h n k Q :=
  fun D base cy p l e s m args below meth c H locs ls hX hK hP hS hB hL => lv_astoreN (nL := M.2.2.1) (lv := mi_al base (l0 :: l1 :: l2 :: l3 :: l4 :: L)) hX.1 hX.2.1 hd hL.has hn rfl (fun ls1 hl1 => kk D base cy p l e s m args below meth c H locs ls1 hX hK hP hS hB (mi_L.of1 (L := l0 :: l1 :: l2 :: l3 :: l4 :: L) (i := 4) (v := .null) hs hl1))
theorem mOk.lstore4 {l0 l1 l2 l3 l4 l5 : Option Value} {x : Int64} (hd : decode M.2.1 pc = .ok (.lstore 4, 2)) (hn : 4 + 1 < M.2.2.1) (hs : mi_s (l0 :: l1 :: l2 :: l3 :: l4 :: l5 :: L) 4 = true) (kk : mOk M d mc ms (pc + 2) (l0 :: l1 :: l2 :: l3 :: some (.long x) :: none :: L) st h n k Q) : mOk M d mc ms pc (l0 :: l1 :: l2 :: l3 :: l4 :: l5 :: L) (.long x :: st) h n k Q :=
  fun D base cy p l e s m args below meth c H locs ls hX hK hP hS hB hL => lv_lstore (nL := M.2.2.1) (lv := mi_al base (l0 :: l1 :: l2 :: l3 :: l4 :: l5 :: L)) hX.1 hX.2.1 hd hL.has hn rfl (fun ls1 hl1 => kk D base cy p l e s m args below meth c H locs ls1 hX hK hP hS hB (mi_L.of2 (L := l0 :: l1 :: l2 :: l3 :: l4 :: l5 :: L) (i := 4) (v := .long x) hs hl1))
theorem mOk.iinc4 {l0 l1 l2 l3 : Option Value} {x y : Int32} {z : Int} (hd : decode M.2.1 pc = .ok (.iinc 4 z, 3)) (hv : x + Int32.ofInt z = y) (hn : 4 < M.2.2.1) (hs : mi_s (l0 :: l1 :: l2 :: l3 :: some (.int x) :: L) 4 = true) (kk : mOk M d mc ms (pc + 3) (l0 :: l1 :: l2 :: l3 :: some (.int y) :: L) st h n k Q) : mOk M d mc ms pc (l0 :: l1 :: l2 :: l3 :: some (.int x) :: L) st h n k Q := by
  intro D base cy p l e s m args below meth c H locs ls hX hK hP hS hB hL
  obtain ⟨j, hj⟩ := List.getElem?_of_mem (mi_al_in (base := base) (L := l0 :: l1 :: l2 :: l3 :: some (.int x) :: L) (q := (4, .int x)) |>.mpr ⟨.int x, rfl, rfl⟩)
  exact lv_iinc (nL := M.2.2.1) (k := j) (lv := mi_al base (l0 :: l1 :: l2 :: l3 :: some (.int x) :: L)) hX.1 hX.2.1 hd hL.has hj hv hn rfl (fun ls1 hl1 => kk D base cy p l e s m args below meth c H locs ls1 hX hK hP hS hB (mi_L.of1 (L := l0 :: l1 :: l2 :: l3 :: some (.int x) :: L) (i := 4) (v := .int y) hs hl1))
theorem mOk.iload5 {l0 l1 l2 l3 l4 : Option Value} {x : Int32} (hd : decode M.2.1 pc = .ok (.iload 5, 2)) (kk : mOk M d mc ms (pc + 2) (l0 :: l1 :: l2 :: l3 :: l4 :: some (.int x) :: L) (.int x :: st) h n k Q) : mOk M d mc ms pc (l0 :: l1 :: l2 :: l3 :: l4 :: some (.int x) :: L) st h n k Q :=
  fun D base cy p l e s m args below meth c H locs ls hX hK hP hS hB hL => lv_iload hX.1 hX.2.1 hd (hL.2.2 5 _ (show (l0 :: l1 :: l2 :: l3 :: l4 :: some (.int x) :: L)[5]? = some (some (.int x)) from rfl)) (kk D base cy p l e s m args below meth c H locs ls hX hK hP hS hB hL)
theorem mOk.aload5 {l0 l1 l2 l3 l4 : Option Value} {x : Nat} (hd : decode M.2.1 pc = .ok (.aload 5, 2)) (kk : mOk M d mc ms (pc + 2) (l0 :: l1 :: l2 :: l3 :: l4 :: some (.ref x) :: L) (.ref x :: st) h n k Q) : mOk M d mc ms pc (l0 :: l1 :: l2 :: l3 :: l4 :: some (.ref x) :: L) st h n k Q :=
  fun D base cy p l e s m args below meth c H locs ls hX hK hP hS hB hL => lv_aload hX.1 hX.2.1 hd (hL.2.2 5 _ (show (l0 :: l1 :: l2 :: l3 :: l4 :: some (.ref x) :: L)[5]? = some (some (.ref x)) from rfl)) (kk D base cy p l e s m args below meth c H locs ls hX hK hP hS hB hL)
theorem mOk.lload5 {l0 l1 l2 l3 l4 : Option Value} {x : Int64} (hd : decode M.2.1 pc = .ok (.lload 5, 2)) (kk : mOk M d mc ms (pc + 2) (l0 :: l1 :: l2 :: l3 :: l4 :: some (.long x) :: L) (.long x :: st) h n k Q) : mOk M d mc ms pc (l0 :: l1 :: l2 :: l3 :: l4 :: some (.long x) :: L) st h n k Q :=
  fun D base cy p l e s m args below meth c H locs ls hX hK hP hS hB hL => lv_lload hX.1 hX.2.1 hd (hL.2.2 5 _ (show (l0 :: l1 :: l2 :: l3 :: l4 :: some (.long x) :: L)[5]? = some (some (.long x)) from rfl)) (kk D base cy p l e s m args below meth c H locs ls hX hK hP hS hB hL)
theorem mOk.aloadN5 {l0 l1 l2 l3 l4 : Option Value} (hd : decode M.2.1 pc = .ok (.aload 5, 2)) (kk : mOk M d mc ms (pc + 2) (l0 :: l1 :: l2 :: l3 :: l4 :: some .null :: L) (.null :: st) h n k Q) : mOk M d mc ms pc (l0 :: l1 :: l2 :: l3 :: l4 :: some .null :: L) st h n k Q :=
  fun D base cy p l e s m args below meth c H locs ls hX hK hP hS hB hL => lv_aloadN hX.1 hX.2.1 hd (hL.2.2 5 _ (show (l0 :: l1 :: l2 :: l3 :: l4 :: some .null :: L)[5]? = some (some .null) from rfl)) (kk D base cy p l e s m args below meth c H locs ls hX hK hP hS hB hL)
theorem mOk.istore5 {l0 l1 l2 l3 l4 l5 : Option Value} {x : Int32} (hd : decode M.2.1 pc = .ok (.istore 5, 2)) (hn : 5 < M.2.2.1) (hs : mi_s (l0 :: l1 :: l2 :: l3 :: l4 :: l5 :: L) 5 = true) (kk : mOk M d mc ms (pc + 2) (l0 :: l1 :: l2 :: l3 :: l4 :: some (.int x) :: L) st h n k Q) : mOk M d mc ms pc (l0 :: l1 :: l2 :: l3 :: l4 :: l5 :: L) (.int x :: st) h n k Q :=
  fun D base cy p l e s m args below meth c H locs ls hX hK hP hS hB hL => lv_istore (nL := M.2.2.1) (lv := mi_al base (l0 :: l1 :: l2 :: l3 :: l4 :: l5 :: L)) hX.1 hX.2.1 hd hL.has hn rfl (fun ls1 hl1 => kk D base cy p l e s m args below meth c H locs ls1 hX hK hP hS hB (mi_L.of1 (L := l0 :: l1 :: l2 :: l3 :: l4 :: l5 :: L) (i := 5) (v := .int x) hs hl1))
theorem mOk.astore5 {l0 l1 l2 l3 l4 l5 : Option Value} {x : Nat} (hd : decode M.2.1 pc = .ok (.astore 5, 2)) (hn : 5 < M.2.2.1) (hs : mi_s (l0 :: l1 :: l2 :: l3 :: l4 :: l5 :: L) 5 = true) (kk : mOk M d mc ms (pc + 2) (l0 :: l1 :: l2 :: l3 :: l4 :: some (.ref x) :: L) st h n k Q) : mOk M d mc ms pc (l0 :: l1 :: l2 :: l3 :: l4 :: l5 :: L) (.ref x :: st) h n k Q :=
  fun D base cy p l e s m args below meth c H locs ls hX hK hP hS hB hL => lv_astore (nL := M.2.2.1) (lv := mi_al base (l0 :: l1 :: l2 :: l3 :: l4 :: l5 :: L)) hX.1 hX.2.1 hd hL.has hn rfl (fun ls1 hl1 => kk D base cy p l e s m args below meth c H locs ls1 hX hK hP hS hB (mi_L.of1 (L := l0 :: l1 :: l2 :: l3 :: l4 :: l5 :: L) (i := 5) (v := .ref x) hs hl1))
theorem mOk.astoreN5 {l0 l1 l2 l3 l4 l5 : Option Value}  (hd : decode M.2.1 pc = .ok (.astore 5, 2)) (hn : 5 < M.2.2.1) (hs : mi_s (l0 :: l1 :: l2 :: l3 :: l4 :: l5 :: L) 5 = true) (kk : mOk M d mc ms (pc + 2) (l0 :: l1 :: l2 :: l3 :: l4 :: some (.null) :: L) st h n k Q) : mOk M d mc ms pc (l0 :: l1 :: l2 :: l3 :: l4 :: l5 :: L) (.null :: st) h n k Q :=
  fun D base cy p l e s m args below meth c H locs ls hX hK hP hS hB hL => lv_astoreN (nL := M.2.2.1) (lv := mi_al base (l0 :: l1 :: l2 :: l3 :: l4 :: l5 :: L)) hX.1 hX.2.1 hd hL.has hn rfl (fun ls1 hl1 => kk D base cy p l e s m args below meth c H locs ls1 hX hK hP hS hB (mi_L.of1 (L := l0 :: l1 :: l2 :: l3 :: l4 :: l5 :: L) (i := 5) (v := .null) hs hl1))
theorem mOk.lstore5 {l0 l1 l2 l3 l4 l5 l6 : Option Value} {x : Int64} (hd : decode M.2.1 pc = .ok (.lstore 5, 2)) (hn : 5 + 1 < M.2.2.1) (hs : mi_s (l0 :: l1 :: l2 :: l3 :: l4 :: l5 :: l6 :: L) 5 = true) (kk : mOk M d mc ms (pc + 2) (l0 :: l1 :: l2 :: l3 :: l4 :: some (.long x) :: none :: L) st h n k Q) : mOk M d mc ms pc (l0 :: l1 :: l2 :: l3 :: l4 :: l5 :: l6 :: L) (.long x :: st) h n k Q :=
  fun D base cy p l e s m args below meth c H locs ls hX hK hP hS hB hL => lv_lstore (nL := M.2.2.1) (lv := mi_al base (l0 :: l1 :: l2 :: l3 :: l4 :: l5 :: l6 :: L)) hX.1 hX.2.1 hd hL.has hn rfl (fun ls1 hl1 => kk D base cy p l e s m args below meth c H locs ls1 hX hK hP hS hB (mi_L.of2 (L := l0 :: l1 :: l2 :: l3 :: l4 :: l5 :: l6 :: L) (i := 5) (v := .long x) hs hl1))
theorem mOk.iinc5 {l0 l1 l2 l3 l4 : Option Value} {x y : Int32} {z : Int} (hd : decode M.2.1 pc = .ok (.iinc 5 z, 3)) (hv : x + Int32.ofInt z = y) (hn : 5 < M.2.2.1) (hs : mi_s (l0 :: l1 :: l2 :: l3 :: l4 :: some (.int x) :: L) 5 = true) (kk : mOk M d mc ms (pc + 3) (l0 :: l1 :: l2 :: l3 :: l4 :: some (.int y) :: L) st h n k Q) : mOk M d mc ms pc (l0 :: l1 :: l2 :: l3 :: l4 :: some (.int x) :: L) st h n k Q := by
  intro D base cy p l e s m args below meth c H locs ls hX hK hP hS hB hL
  obtain ⟨j, hj⟩ := List.getElem?_of_mem (mi_al_in (base := base) (L := l0 :: l1 :: l2 :: l3 :: l4 :: some (.int x) :: L) (q := (5, .int x)) |>.mpr ⟨.int x, rfl, rfl⟩)
  exact lv_iinc (nL := M.2.2.1) (k := j) (lv := mi_al base (l0 :: l1 :: l2 :: l3 :: l4 :: some (.int x) :: L)) hX.1 hX.2.1 hd hL.has hj hv hn rfl (fun ls1 hl1 => kk D base cy p l e s m args below meth c H locs ls1 hX hK hP hS hB (mi_L.of1 (L := l0 :: l1 :: l2 :: l3 :: l4 :: some (.int x) :: L) (i := 5) (v := .int y) hs hl1))
theorem mOk.iload6 {l0 l1 l2 l3 l4 l5 : Option Value} {x : Int32} (hd : decode M.2.1 pc = .ok (.iload 6, 2)) (kk : mOk M d mc ms (pc + 2) (l0 :: l1 :: l2 :: l3 :: l4 :: l5 :: some (.int x) :: L) (.int x :: st) h n k Q) : mOk M d mc ms pc (l0 :: l1 :: l2 :: l3 :: l4 :: l5 :: some (.int x) :: L) st h n k Q :=
  fun D base cy p l e s m args below meth c H locs ls hX hK hP hS hB hL => lv_iload hX.1 hX.2.1 hd (hL.2.2 6 _ (show (l0 :: l1 :: l2 :: l3 :: l4 :: l5 :: some (.int x) :: L)[6]? = some (some (.int x)) from rfl)) (kk D base cy p l e s m args below meth c H locs ls hX hK hP hS hB hL)
theorem mOk.aload6 {l0 l1 l2 l3 l4 l5 : Option Value} {x : Nat} (hd : decode M.2.1 pc = .ok (.aload 6, 2)) (kk : mOk M d mc ms (pc + 2) (l0 :: l1 :: l2 :: l3 :: l4 :: l5 :: some (.ref x) :: L) (.ref x :: st) h n k Q) : mOk M d mc ms pc (l0 :: l1 :: l2 :: l3 :: l4 :: l5 :: some (.ref x) :: L) st h n k Q :=
  fun D base cy p l e s m args below meth c H locs ls hX hK hP hS hB hL => lv_aload hX.1 hX.2.1 hd (hL.2.2 6 _ (show (l0 :: l1 :: l2 :: l3 :: l4 :: l5 :: some (.ref x) :: L)[6]? = some (some (.ref x)) from rfl)) (kk D base cy p l e s m args below meth c H locs ls hX hK hP hS hB hL)
theorem mOk.lload6 {l0 l1 l2 l3 l4 l5 : Option Value} {x : Int64} (hd : decode M.2.1 pc = .ok (.lload 6, 2)) (kk : mOk M d mc ms (pc + 2) (l0 :: l1 :: l2 :: l3 :: l4 :: l5 :: some (.long x) :: L) (.long x :: st) h n k Q) : mOk M d mc ms pc (l0 :: l1 :: l2 :: l3 :: l4 :: l5 :: some (.long x) :: L) st h n k Q :=
  fun D base cy p l e s m args below meth c H locs ls hX hK hP hS hB hL => lv_lload hX.1 hX.2.1 hd (hL.2.2 6 _ (show (l0 :: l1 :: l2 :: l3 :: l4 :: l5 :: some (.long x) :: L)[6]? = some (some (.long x)) from rfl)) (kk D base cy p l e s m args below meth c H locs ls hX hK hP hS hB hL)
theorem mOk.aloadN6 {l0 l1 l2 l3 l4 l5 : Option Value} (hd : decode M.2.1 pc = .ok (.aload 6, 2)) (kk : mOk M d mc ms (pc + 2) (l0 :: l1 :: l2 :: l3 :: l4 :: l5 :: some .null :: L) (.null :: st) h n k Q) : mOk M d mc ms pc (l0 :: l1 :: l2 :: l3 :: l4 :: l5 :: some .null :: L) st h n k Q :=
  fun D base cy p l e s m args below meth c H locs ls hX hK hP hS hB hL => lv_aloadN hX.1 hX.2.1 hd (hL.2.2 6 _ (show (l0 :: l1 :: l2 :: l3 :: l4 :: l5 :: some .null :: L)[6]? = some (some .null) from rfl)) (kk D base cy p l e s m args below meth c H locs ls hX hK hP hS hB hL)
theorem mOk.istore6 {l0 l1 l2 l3 l4 l5 l6 : Option Value} {x : Int32} (hd : decode M.2.1 pc = .ok (.istore 6, 2)) (hn : 6 < M.2.2.1) (hs : mi_s (l0 :: l1 :: l2 :: l3 :: l4 :: l5 :: l6 :: L) 6 = true) (kk : mOk M d mc ms (pc + 2) (l0 :: l1 :: l2 :: l3 :: l4 :: l5 :: some (.int x) :: L) st h n k Q) : mOk M d mc ms pc (l0 :: l1 :: l2 :: l3 :: l4 :: l5 :: l6 :: L) (.int x :: st) h n k Q :=
  fun D base cy p l e s m args below meth c H locs ls hX hK hP hS hB hL => lv_istore (nL := M.2.2.1) (lv := mi_al base (l0 :: l1 :: l2 :: l3 :: l4 :: l5 :: l6 :: L)) hX.1 hX.2.1 hd hL.has hn rfl (fun ls1 hl1 => kk D base cy p l e s m args below meth c H locs ls1 hX hK hP hS hB (mi_L.of1 (L := l0 :: l1 :: l2 :: l3 :: l4 :: l5 :: l6 :: L) (i := 6) (v := .int x) hs hl1))
theorem mOk.astore6 {l0 l1 l2 l3 l4 l5 l6 : Option Value} {x : Nat} (hd : decode M.2.1 pc = .ok (.astore 6, 2)) (hn : 6 < M.2.2.1) (hs : mi_s (l0 :: l1 :: l2 :: l3 :: l4 :: l5 :: l6 :: L) 6 = true) (kk : mOk M d mc ms (pc + 2) (l0 :: l1 :: l2 :: l3 :: l4 :: l5 :: some (.ref x) :: L) st h n k Q) : mOk M d mc ms pc (l0 :: l1 :: l2 :: l3 :: l4 :: l5 :: l6 :: L) (.ref x :: st) h n k Q :=
  fun D base cy p l e s m args below meth c H locs ls hX hK hP hS hB hL => lv_astore (nL := M.2.2.1) (lv := mi_al base (l0 :: l1 :: l2 :: l3 :: l4 :: l5 :: l6 :: L)) hX.1 hX.2.1 hd hL.has hn rfl (fun ls1 hl1 => kk D base cy p l e s m args below meth c H locs ls1 hX hK hP hS hB (mi_L.of1 (L := l0 :: l1 :: l2 :: l3 :: l4 :: l5 :: l6 :: L) (i := 6) (v := .ref x) hs hl1))
theorem mOk.astoreN6 {l0 l1 l2 l3 l4 l5 l6 : Option Value}  (hd : decode M.2.1 pc = .ok (.astore 6, 2)) (hn : 6 < M.2.2.1) (hs : mi_s (l0 :: l1 :: l2 :: l3 :: l4 :: l5 :: l6 :: L) 6 = true) (kk : mOk M d mc ms (pc + 2) (l0 :: l1 :: l2 :: l3 :: l4 :: l5 :: some (.null) :: L) st h n k Q) : mOk M d mc ms pc (l0 :: l1 :: l2 :: l3 :: l4 :: l5 :: l6 :: L) (.null :: st) h n k Q :=
  fun D base cy p l e s m args below meth c H locs ls hX hK hP hS hB hL => lv_astoreN (nL := M.2.2.1) (lv := mi_al base (l0 :: l1 :: l2 :: l3 :: l4 :: l5 :: l6 :: L)) hX.1 hX.2.1 hd hL.has hn rfl (fun ls1 hl1 => kk D base cy p l e s m args below meth c H locs ls1 hX hK hP hS hB (mi_L.of1 (L := l0 :: l1 :: l2 :: l3 :: l4 :: l5 :: l6 :: L) (i := 6) (v := .null) hs hl1))
theorem mOk.lstore6 {l0 l1 l2 l3 l4 l5 l6 l7 : Option Value} {x : Int64} (hd : decode M.2.1 pc = .ok (.lstore 6, 2)) (hn : 6 + 1 < M.2.2.1) (hs : mi_s (l0 :: l1 :: l2 :: l3 :: l4 :: l5 :: l6 :: l7 :: L) 6 = true) (kk : mOk M d mc ms (pc + 2) (l0 :: l1 :: l2 :: l3 :: l4 :: l5 :: some (.long x) :: none :: L) st h n k Q) : mOk M d mc ms pc (l0 :: l1 :: l2 :: l3 :: l4 :: l5 :: l6 :: l7 :: L) (.long x :: st) h n k Q :=
  fun D base cy p l e s m args below meth c H locs ls hX hK hP hS hB hL => lv_lstore (nL := M.2.2.1) (lv := mi_al base (l0 :: l1 :: l2 :: l3 :: l4 :: l5 :: l6 :: l7 :: L)) hX.1 hX.2.1 hd hL.has hn rfl (fun ls1 hl1 => kk D base cy p l e s m args below meth c H locs ls1 hX hK hP hS hB (mi_L.of2 (L := l0 :: l1 :: l2 :: l3 :: l4 :: l5 :: l6 :: l7 :: L) (i := 6) (v := .long x) hs hl1))
theorem mOk.iinc6 {l0 l1 l2 l3 l4 l5 : Option Value} {x y : Int32} {z : Int} (hd : decode M.2.1 pc = .ok (.iinc 6 z, 3)) (hv : x + Int32.ofInt z = y) (hn : 6 < M.2.2.1) (hs : mi_s (l0 :: l1 :: l2 :: l3 :: l4 :: l5 :: some (.int x) :: L) 6 = true) (kk : mOk M d mc ms (pc + 3) (l0 :: l1 :: l2 :: l3 :: l4 :: l5 :: some (.int y) :: L) st h n k Q) : mOk M d mc ms pc (l0 :: l1 :: l2 :: l3 :: l4 :: l5 :: some (.int x) :: L) st h n k Q := by
  intro D base cy p l e s m args below meth c H locs ls hX hK hP hS hB hL
  obtain ⟨j, hj⟩ := List.getElem?_of_mem (mi_al_in (base := base) (L := l0 :: l1 :: l2 :: l3 :: l4 :: l5 :: some (.int x) :: L) (q := (6, .int x)) |>.mpr ⟨.int x, rfl, rfl⟩)
  exact lv_iinc (nL := M.2.2.1) (k := j) (lv := mi_al base (l0 :: l1 :: l2 :: l3 :: l4 :: l5 :: some (.int x) :: L)) hX.1 hX.2.1 hd hL.has hj hv hn rfl (fun ls1 hl1 => kk D base cy p l e s m args below meth c H locs ls1 hX hK hP hS hB (mi_L.of1 (L := l0 :: l1 :: l2 :: l3 :: l4 :: l5 :: some (.int x) :: L) (i := 6) (v := .int y) hs hl1))
theorem mOk.iload7 {l0 l1 l2 l3 l4 l5 l6 : Option Value} {x : Int32} (hd : decode M.2.1 pc = .ok (.iload 7, 2)) (kk : mOk M d mc ms (pc + 2) (l0 :: l1 :: l2 :: l3 :: l4 :: l5 :: l6 :: some (.int x) :: L) (.int x :: st) h n k Q) : mOk M d mc ms pc (l0 :: l1 :: l2 :: l3 :: l4 :: l5 :: l6 :: some (.int x) :: L) st h n k Q :=
  fun D base cy p l e s m args below meth c H locs ls hX hK hP hS hB hL => lv_iload hX.1 hX.2.1 hd (hL.2.2 7 _ (show (l0 :: l1 :: l2 :: l3 :: l4 :: l5 :: l6 :: some (.int x) :: L)[7]? = some (some (.int x)) from rfl)) (kk D base cy p l e s m args below meth c H locs ls hX hK hP hS hB hL)
theorem mOk.aload7 {l0 l1 l2 l3 l4 l5 l6 : Option Value} {x : Nat} (hd : decode M.2.1 pc = .ok (.aload 7, 2)) (kk : mOk M d mc ms (pc + 2) (l0 :: l1 :: l2 :: l3 :: l4 :: l5 :: l6 :: some (.ref x) :: L) (.ref x :: st) h n k Q) : mOk M d mc ms pc (l0 :: l1 :: l2 :: l3 :: l4 :: l5 :: l6 :: some (.ref x) :: L) st h n k Q :=
  fun D base cy p l e s m args below meth c H locs ls hX hK hP hS hB hL => lv_aload hX.1 hX.2.1 hd (hL.2.2 7 _ (show (l0 :: l1 :: l2 :: l3 :: l4 :: l5 :: l6 :: some (.ref x) :: L)[7]? = some (some (.ref x)) from rfl)) (kk D base cy p l e s m args below meth c H locs ls hX hK hP hS hB hL)
theorem mOk.lload7 {l0 l1 l2 l3 l4 l5 l6 : Option Value} {x : Int64} (hd : decode M.2.1 pc = .ok (.lload 7, 2)) (kk : mOk M d mc ms (pc + 2) (l0 :: l1 :: l2 :: l3 :: l4 :: l5 :: l6 :: some (.long x) :: L) (.long x :: st) h n k Q) : mOk M d mc ms pc (l0 :: l1 :: l2 :: l3 :: l4 :: l5 :: l6 :: some (.long x) :: L) st h n k Q :=
  fun D base cy p l e s m args below meth c H locs ls hX hK hP hS hB hL => lv_lload hX.1 hX.2.1 hd (hL.2.2 7 _ (show (l0 :: l1 :: l2 :: l3 :: l4 :: l5 :: l6 :: some (.long x) :: L)[7]? = some (some (.long x)) from rfl)) (kk D base cy p l e s m args below meth c H locs ls hX hK hP hS hB hL)
theorem mOk.aloadN7 {l0 l1 l2 l3 l4 l5 l6 : Option Value} (hd : decode M.2.1 pc = .ok (.aload 7, 2)) (kk : mOk M d mc ms (pc + 2) (l0 :: l1 :: l2 :: l3 :: l4 :: l5 :: l6 :: some .null :: L) (.null :: st) h n k Q) : mOk M d mc ms pc (l0 :: l1 :: l2 :: l3 :: l4 :: l5 :: l6 :: some .null :: L) st h n k Q :=
  fun D base cy p l e s m args below meth c H locs ls hX hK hP hS hB hL => lv_aloadN hX.1 hX.2.1 hd (hL.2.2 7 _ (show (l0 :: l1 :: l2 :: l3 :: l4 :: l5 :: l6 :: some .null :: L)[7]? = some (some .null) from rfl)) (kk D base cy p l e s m args below meth c H locs ls hX hK hP hS hB hL)
theorem mOk.istore7 {l0 l1 l2 l3 l4 l5 l6 l7 : Option Value} {x : Int32} (hd : decode M.2.1 pc = .ok (.istore 7, 2)) (hn : 7 < M.2.2.1) (hs : mi_s (l0 :: l1 :: l2 :: l3 :: l4 :: l5 :: l6 :: l7 :: L) 7 = true) (kk : mOk M d mc ms (pc + 2) (l0 :: l1 :: l2 :: l3 :: l4 :: l5 :: l6 :: some (.int x) :: L) st h n k Q) : mOk M d mc ms pc (l0 :: l1 :: l2 :: l3 :: l4 :: l5 :: l6 :: l7 :: L) (.int x :: st) h n k Q :=
  fun D base cy p l e s m args below meth c H locs ls hX hK hP hS hB hL => lv_istore (nL := M.2.2.1) (lv := mi_al base (l0 :: l1 :: l2 :: l3 :: l4 :: l5 :: l6 :: l7 :: L)) hX.1 hX.2.1 hd hL.has hn rfl (fun ls1 hl1 => kk D base cy p l e s m args below meth c H locs ls1 hX hK hP hS hB (mi_L.of1 (L := l0 :: l1 :: l2 :: l3 :: l4 :: l5 :: l6 :: l7 :: L) (i := 7) (v := .int x) hs hl1))
theorem mOk.astore7 {l0 l1 l2 l3 l4 l5 l6 l7 : Option Value} {x : Nat} (hd : decode M.2.1 pc = .ok (.astore 7, 2)) (hn : 7 < M.2.2.1) (hs : mi_s (l0 :: l1 :: l2 :: l3 :: l4 :: l5 :: l6 :: l7 :: L) 7 = true) (kk : mOk M d mc ms (pc + 2) (l0 :: l1 :: l2 :: l3 :: l4 :: l5 :: l6 :: some (.ref x) :: L) st h n k Q) : mOk M d mc ms pc (l0 :: l1 :: l2 :: l3 :: l4 :: l5 :: l6 :: l7 :: L) (.ref x :: st) h n k Q :=
  fun D base cy p l e s m args below meth c H locs ls hX hK hP hS hB hL => lv_astore (nL := M.2.2.1) (lv := mi_al base (l0 :: l1 :: l2 :: l3 :: l4 :: l5 :: l6 :: l7 :: L)) hX.1 hX.2.1 hd hL.has hn rfl (fun ls1 hl1 => kk D base cy p l e s m args below meth c H locs ls1 hX hK hP hS hB (mi_L.of1 (L := l0 :: l1 :: l2 :: l3 :: l4 :: l5 :: l6 :: l7 :: L) (i := 7) (v := .ref x) hs hl1))
theorem mOk.astoreN7 {l0 l1 l2 l3 l4 l5 l6 l7 : Option Value}  (hd : decode M.2.1 pc = .ok (.astore 7, 2)) (hn : 7 < M.2.2.1) (hs : mi_s (l0 :: l1 :: l2 :: l3 :: l4 :: l5 :: l6 :: l7 :: L) 7 = true) (kk : mOk M d mc ms (pc + 2) (l0 :: l1 :: l2 :: l3 :: l4 :: l5 :: l6 :: some (.null) :: L) st h n k Q) : mOk M d mc ms pc (l0 :: l1 :: l2 :: l3 :: l4 :: l5 :: l6 :: l7 :: L) (.null :: st) h n k Q :=
  fun D base cy p l e s m args below meth c H locs ls hX hK hP hS hB hL => lv_astoreN (nL := M.2.2.1) (lv := mi_al base (l0 :: l1 :: l2 :: l3 :: l4 :: l5 :: l6 :: l7 :: L)) hX.1 hX.2.1 hd hL.has hn rfl (fun ls1 hl1 => kk D base cy p l e s m args below meth c H locs ls1 hX hK hP hS hB (mi_L.of1 (L := l0 :: l1 :: l2 :: l3 :: l4 :: l5 :: l6 :: l7 :: L) (i := 7) (v := .null) hs hl1))
theorem mOk.lstore7 {l0 l1 l2 l3 l4 l5 l6 l7 l8 : Option Value} {x : Int64} (hd : decode M.2.1 pc = .ok (.lstore 7, 2)) (hn : 7 + 1 < M.2.2.1) (hs : mi_s (l0 :: l1 :: l2 :: l3 :: l4 :: l5 :: l6 :: l7 :: l8 :: L) 7 = true) (kk : mOk M d mc ms (pc + 2) (l0 :: l1 :: l2 :: l3 :: l4 :: l5 :: l6 :: some (.long x) :: none :: L) st h n k Q) : mOk M d mc ms pc (l0 :: l1 :: l2 :: l3 :: l4 :: l5 :: l6 :: l7 :: l8 :: L) (.long x :: st) h n k Q :=
  fun D base cy p l e s m args below meth c H locs ls hX hK hP hS hB hL => lv_lstore (nL := M.2.2.1) (lv := mi_al base (l0 :: l1 :: l2 :: l3 :: l4 :: l5 :: l6 :: l7 :: l8 :: L)) hX.1 hX.2.1 hd hL.has hn rfl (fun ls1 hl1 => kk D base cy p l e s m args below meth c H locs ls1 hX hK hP hS hB (mi_L.of2 (L := l0 :: l1 :: l2 :: l3 :: l4 :: l5 :: l6 :: l7 :: l8 :: L) (i := 7) (v := .long x) hs hl1))
theorem mOk.iinc7 {l0 l1 l2 l3 l4 l5 l6 : Option Value} {x y : Int32} {z : Int} (hd : decode M.2.1 pc = .ok (.iinc 7 z, 3)) (hv : x + Int32.ofInt z = y) (hn : 7 < M.2.2.1) (hs : mi_s (l0 :: l1 :: l2 :: l3 :: l4 :: l5 :: l6 :: some (.int x) :: L) 7 = true) (kk : mOk M d mc ms (pc + 3) (l0 :: l1 :: l2 :: l3 :: l4 :: l5 :: l6 :: some (.int y) :: L) st h n k Q) : mOk M d mc ms pc (l0 :: l1 :: l2 :: l3 :: l4 :: l5 :: l6 :: some (.int x) :: L) st h n k Q := by
  intro D base cy p l e s m args below meth c H locs ls hX hK hP hS hB hL
  obtain ⟨j, hj⟩ := List.getElem?_of_mem (mi_al_in (base := base) (L := l0 :: l1 :: l2 :: l3 :: l4 :: l5 :: l6 :: some (.int x) :: L) (q := (7, .int x)) |>.mpr ⟨.int x, rfl, rfl⟩)
  exact lv_iinc (nL := M.2.2.1) (k := j) (lv := mi_al base (l0 :: l1 :: l2 :: l3 :: l4 :: l5 :: l6 :: some (.int x) :: L)) hX.1 hX.2.1 hd hL.has hj hv hn rfl (fun ls1 hl1 => kk D base cy p l e s m args below meth c H locs ls1 hX hK hP hS hB (mi_L.of1 (L := l0 :: l1 :: l2 :: l3 :: l4 :: l5 :: l6 :: some (.int x) :: L) (i := 7) (v := .int y) hs hl1))
theorem mOk.iload8 {l0 l1 l2 l3 l4 l5 l6 l7 : Option Value} {x : Int32} (hd : decode M.2.1 pc = .ok (.iload 8, 2)) (kk : mOk M d mc ms (pc + 2) (l0 :: l1 :: l2 :: l3 :: l4 :: l5 :: l6 :: l7 :: some (.int x) :: L) (.int x :: st) h n k Q) : mOk M d mc ms pc (l0 :: l1 :: l2 :: l3 :: l4 :: l5 :: l6 :: l7 :: some (.int x) :: L) st h n k Q :=
  fun D base cy p l e s m args below meth c H locs ls hX hK hP hS hB hL => lv_iload hX.1 hX.2.1 hd (hL.2.2 8 _ (show (l0 :: l1 :: l2 :: l3 :: l4 :: l5 :: l6 :: l7 :: some (.int x) :: L)[8]? = some (some (.int x)) from rfl)) (kk D base cy p l e s m args below meth c H locs ls hX hK hP hS hB hL)
theorem mOk.aload8 {l0 l1 l2 l3 l4 l5 l6 l7 : Option Value} {x : Nat} (hd : decode M.2.1 pc = .ok (.aload 8, 2)) (kk : mOk M d mc ms (pc + 2) (l0 :: l1 :: l2 :: l3 :: l4 :: l5 :: l6 :: l7 :: some (.ref x) :: L) (.ref x :: st) h n k Q) : mOk M d mc ms pc (l0 :: l1 :: l2 :: l3 :: l4 :: l5 :: l6 :: l7 :: some (.ref x) :: L) st h n k Q :=
  fun D base cy p l e s m args below meth c H locs ls hX hK hP hS hB hL => lv_aload hX.1 hX.2.1 hd (hL.2.2 8 _ (show (l0 :: l1 :: l2 :: l3 :: l4 :: l5 :: l6 :: l7 :: some (.ref x) :: L)[8]? = some (some (.ref x)) from rfl)) (kk D base cy p l e s m args below meth c H locs ls hX hK hP hS hB hL)
theorem mOk.lload8 {l0 l1 l2 l3 l4 l5 l6 l7 : Option Value} {x : Int64} (hd : decode M.2.1 pc = .ok (.lload 8, 2)) (kk : mOk M d mc ms (pc + 2) (l0 :: l1 :: l2 :: l3 :: l4 :: l5 :: l6 :: l7 :: some (.long x) :: L) (.long x :: st) h n k Q) : mOk M d mc ms pc (l0 :: l1 :: l2 :: l3 :: l4 :: l5 :: l6 :: l7 :: some (.long x) :: L) st h n k Q :=
  fun D base cy p l e s m args below meth c H locs ls hX hK hP hS hB hL => lv_lload hX.1 hX.2.1 hd (hL.2.2 8 _ (show (l0 :: l1 :: l2 :: l3 :: l4 :: l5 :: l6 :: l7 :: some (.long x) :: L)[8]? = some (some (.long x)) from rfl)) (kk D base cy p l e s m args below meth c H locs ls hX hK hP hS hB hL)
theorem mOk.aloadN8 {l0 l1 l2 l3 l4 l5 l6 l7 : Option Value} (hd : decode M.2.1 pc = .ok (.aload 8, 2)) (kk : mOk M d mc ms (pc + 2) (l0 :: l1 :: l2 :: l3 :: l4 :: l5 :: l6 :: l7 :: some .null :: L) (.null :: st) h n k Q) : mOk M d mc ms pc (l0 :: l1 :: l2 :: l3 :: l4 :: l5 :: l6 :: l7 :: some .null :: L) st h n k Q :=
  fun D base cy p l e s m args below meth c H locs ls hX hK hP hS hB hL => lv_aloadN hX.1 hX.2.1 hd (hL.2.2 8 _ (show (l0 :: l1 :: l2 :: l3 :: l4 :: l5 :: l6 :: l7 :: some .null :: L)[8]? = some (some .null) from rfl)) (kk D base cy p l e s m args below meth c H locs ls hX hK hP hS hB hL)
theorem mOk.istore8 {l0 l1 l2 l3 l4 l5 l6 l7 l8 : Option Value} {x : Int32} (hd : decode M.2.1 pc = .ok (.istore 8, 2)) (hn : 8 < M.2.2.1) (hs : mi_s (l0 :: l1 :: l2 :: l3 :: l4 :: l5 :: l6 :: l7 :: l8 :: L) 8 = true) (kk : mOk M d mc ms (pc + 2) (l0 :: l1 :: l2 :: l3 :: l4 :: l5 :: l6 :: l7 :: some (.int x) :: L) st h n k Q) : mOk M d mc ms pc (l0 :: l1 :: l2 :: l3 :: l4 :: l5 :: l6 :: l7 :: l8 :: L) (.int x :: st) h n k Q :=
  fun D base cy p l e s m args below meth c H locs ls hX hK hP hS hB hL => lv_istore (nL := M.2.2.1) (lv := mi_al base (l0 :: l1 :: l2 :: l3 :: l4 :: l5 :: l6 :: l7 :: l8 :: L)) hX.1 hX.2.1 hd hL.has hn rfl (fun ls1 hl1 => kk D base cy p l e s m args below meth c H locs ls1 hX hK hP hS hB (mi_L.of1 (L := l0 :: l1 :: l2 :: l3 :: l4 :: l5 :: l6 :: l7 :: l8 :: L) (i := 8) (v := .int x) hs hl1))
theorem mOk.astore8 {l0 l1 l2 l3 l4 l5 l6 l7 l8 : Option Value} {x : Nat} (hd : decode M.2.1 pc = .ok (.astore 8, 2)) (hn : 8 < M.2.2.1) (hs : mi_s (l0 :: l1 :: l2 :: l3 :: l4 :: l5 :: l6 :: l7 :: l8 :: L) 8 = true) (kk : mOk M d mc ms (pc + 2) (l0 :: l1 :: l2 :: l3 :: l4 :: l5 :: l6 :: l7 :: some (.ref x) :: L) st h n k Q) : mOk M d mc ms pc (l0 :: l1 :: l2 :: l3 :: l4 :: l5 :: l6 :: l7 :: l8 :: L) (.ref x :: st) h n k Q :=
  fun D base cy p l e s m args below meth c H locs ls hX hK hP hS hB hL => lv_astore (nL := M.2.2.1) (lv := mi_al base (l0 :: l1 :: l2 :: l3 :: l4 :: l5 :: l6 :: l7 :: l8 :: L)) hX.1 hX.2.1 hd hL.has hn rfl (fun ls1 hl1 => kk D base cy p l e s m args below meth c H locs ls1 hX hK hP hS hB (mi_L.of1 (L := l0 :: l1 :: l2 :: l3 :: l4 :: l5 :: l6 :: l7 :: l8 :: L) (i := 8) (v := .ref x) hs hl1))
theorem mOk.astoreN8 {l0 l1 l2 l3 l4 l5 l6 l7 l8 : Option Value}  (hd : decode M.2.1 pc = .ok (.astore 8, 2)) (hn : 8 < M.2.2.1) (hs : mi_s (l0 :: l1 :: l2 :: l3 :: l4 :: l5 :: l6 :: l7 :: l8 :: L) 8 = true) (kk : mOk M d mc ms (pc + 2) (l0 :: l1 :: l2 :: l3 :: l4 :: l5 :: l6 :: l7 :: some (.null) :: L) st h n k Q) : mOk M d mc ms pc (l0 :: l1 :: l2 :: l3 :: l4 :: l5 :: l6 :: l7 :: l8 :: L) (.null :: st) h n k Q :=
  fun D base cy p l e s m args below meth c H locs ls hX hK hP hS hB hL => lv_astoreN (nL := M.2.2.1) (lv := mi_al base (l0 :: l1 :: l2 :: l3 :: l4 :: l5 :: l6 :: l7 :: l8 :: L)) hX.1 hX.2.1 hd hL.has hn rfl (fun ls1 hl1 => kk D base cy p l e s m args below meth c H locs ls1 hX hK hP hS hB (mi_L.of1 (L := l0 :: l1 :: l2 :: l3 :: l4 :: l5 :: l6 :: l7 :: l8 :: L) (i := 8) (v := .null) hs hl1))
theorem mOk.lstore8 {l0 l1 l2 l3 l4 l5 l6 l7 l8 l9 : Option Value} {x : Int64} (hd : decode M.2.1 pc = .ok (.lstore 8, 2)) (hn : 8 + 1 < M.2.2.1) (hs : mi_s (l0 :: l1 :: l2 :: l3 :: l4 :: l5 :: l6 :: l7 :: l8 :: l9 :: L) 8 = true) (kk : mOk M d mc ms (pc + 2) (l0 :: l1 :: l2 :: l3 :: l4 :: l5 :: l6 :: l7 :: some (.long x) :: none :: L) st h n k Q) : mOk M d mc ms pc (l0 :: l1 :: l2 :: l3 :: l4 :: l5 :: l6 :: l7 :: l8 :: l9 :: L) (.long x :: st) h n k Q :=
  fun D base cy p l e s m args below meth c H locs ls hX hK hP hS hB hL => lv_lstore (nL := M.2.2.1) (lv := mi_al base (l0 :: l1 :: l2 :: l3 :: l4 :: l5 :: l6 :: l7 :: l8 :: l9 :: L)) hX.1 hX.2.1 hd hL.has hn rfl (fun ls1 hl1 => kk D base cy p l e s m args below meth c H locs ls1 hX hK hP hS hB (mi_L.of2 (L := l0 :: l1 :: l2 :: l3 :: l4 :: l5 :: l6 :: l7 :: l8 :: l9 :: L) (i := 8) (v := .long x) hs hl1))
theorem mOk.iinc8 {l0 l1 l2 l3 l4 l5 l6 l7 : Option Value} {x y : Int32} {z : Int} (hd : decode M.2.1 pc = .ok (.iinc 8 z, 3)) (hv : x + Int32.ofInt z = y) (hn : 8 < M.2.2.1) (hs : mi_s (l0 :: l1 :: l2 :: l3 :: l4 :: l5 :: l6 :: l7 :: some (.int x) :: L) 8 = true) (kk : mOk M d mc ms (pc + 3) (l0 :: l1 :: l2 :: l3 :: l4 :: l5 :: l6 :: l7 :: some (.int y) :: L) st h n k Q) : mOk M d mc ms pc (l0 :: l1 :: l2 :: l3 :: l4 :: l5 :: l6 :: l7 :: some (.int x) :: L) st h n k Q := by
  intro D base cy p l e s m args below meth c H locs ls hX hK hP hS hB hL
  obtain ⟨j, hj⟩ := List.getElem?_of_mem (mi_al_in (base := base) (L := l0 :: l1 :: l2 :: l3 :: l4 :: l5 :: l6 :: l7 :: some (.int x) :: L) (q := (8, .int x)) |>.mpr ⟨.int x, rfl, rfl⟩)
  exact lv_iinc (nL := M.2.2.1) (k := j) (lv := mi_al base (l0 :: l1 :: l2 :: l3 :: l4 :: l5 :: l6 :: l7 :: some (.int x) :: L)) hX.1 hX.2.1 hd hL.has hj hv hn rfl (fun ls1 hl1 => kk D base cy p l e s m args below meth c H locs ls1 hX hK hP hS hB (mi_L.of1 (L := l0 :: l1 :: l2 :: l3 :: l4 :: l5 :: l6 :: l7 :: some (.int x) :: L) (i := 8) (v := .int y) hs hl1))
theorem mOk.iload9 {l0 l1 l2 l3 l4 l5 l6 l7 l8 : Option Value} {x : Int32} (hd : decode M.2.1 pc = .ok (.iload 9, 2)) (kk : mOk M d mc ms (pc + 2) (l0 :: l1 :: l2 :: l3 :: l4 :: l5 :: l6 :: l7 :: l8 :: some (.int x) :: L) (.int x :: st) h n k Q) : mOk M d mc ms pc (l0 :: l1 :: l2 :: l3 :: l4 :: l5 :: l6 :: l7 :: l8 :: some (.int x) :: L) st h n k Q :=
  fun D base cy p l e s m args below meth c H locs ls hX hK hP hS hB hL => lv_iload hX.1 hX.2.1 hd (hL.2.2 9 _ (show (l0 :: l1 :: l2 :: l3 :: l4 :: l5 :: l6 :: l7 :: l8 :: some (.int x) :: L)[9]? = some (some (.int x)) from rfl)) (kk D base cy p l e s m args below meth c H locs ls hX hK hP hS hB hL)
theorem mOk.aload9 {l0 l1 l2 l3 l4 l5 l6 l7 l8 : Option Value} {x : Nat} (hd : decode M.2.1 pc = .ok (.aload 9, 2)) (kk : mOk M d mc ms (pc + 2) (l0 :: l1 :: l2 :: l3 :: l4 :: l5 :: l6 :: l7 :: l8 :: some (.ref x) :: L) (.ref x :: st) h n k Q) : mOk M d mc ms pc (l0 :: l1 :: l2 :: l3 :: l4 :: l5 :: l6 :: l7 :: l8 :: some (.ref x) :: L) st h n k Q :=
  fun D base cy p l e s m args below meth c H locs ls hX hK hP hS hB hL => lv_aload hX.1 hX.2.1 hd (hL.2.2 9 _ (show (l0 :: l1 :: l2 :: l3 :: l4 :: l5 :: l6 :: l7 :: l8 :: some (.ref x) :: L)[9]? = some (some (.ref x)) from rfl)) (kk D base cy p l e s m args below meth c H locs ls hX hK hP hS hB hL)
theorem mOk.lload9 {l0 l1 l2 l3 l4 l5 l6 l7 l8 : Option Value} {x : Int64} (hd : decode M.2.1 pc = .ok (.lload 9, 2)) (kk : mOk M d mc ms (pc + 2) (l0 :: l1 :: l2 :: l3 :: l4 :: l5 :: l6 :: l7 :: l8 :: some (.long x) :: L) (.long x :: st) h n k Q) : mOk M d mc ms pc (l0 :: l1 :: l2 :: l3 :: l4 :: l5 :: l6 :: l7 :: l8 :: some (.long x) :: L) st h n k Q :=
  fun D base cy p l e s m args below meth c H locs ls hX hK hP hS hB hL => lv_lload hX.1 hX.2.1 hd (hL.2.2 9 _ (show (l0 :: l1 :: l2 :: l3 :: l4 :: l5 :: l6 :: l7 :: l8 :: some (.long x) :: L)[9]? = some (some (.long x)) from rfl)) (kk D base cy p l e s m args below meth c H locs ls hX hK hP hS hB hL)
theorem mOk.aloadN9 {l0 l1 l2 l3 l4 l5 l6 l7 l8 : Option Value} (hd : decode M.2.1 pc = .ok (.aload 9, 2)) (kk : mOk M d mc ms (pc + 2) (l0 :: l1 :: l2 :: l3 :: l4 :: l5 :: l6 :: l7 :: l8 :: some .null :: L) (.null :: st) h n k Q) : mOk M d mc ms pc (l0 :: l1 :: l2 :: l3 :: l4 :: l5 :: l6 :: l7 :: l8 :: some .null :: L) st h n k Q :=
  fun D base cy p l e s m args below meth c H locs ls hX hK hP hS hB hL => lv_aloadN hX.1 hX.2.1 hd (hL.2.2 9 _ (show (l0 :: l1 :: l2 :: l3 :: l4 :: l5 :: l6 :: l7 :: l8 :: some .null :: L)[9]? = some (some .null) from rfl)) (kk D base cy p l e s m args below meth c H locs ls hX hK hP hS hB hL)
theorem mOk.istore9 {l0 l1 l2 l3 l4 l5 l6 l7 l8 l9 : Option Value} {x : Int32} (hd : decode M.2.1 pc = .ok (.istore 9, 2)) (hn : 9 < M.2.2.1) (hs : mi_s (l0 :: l1 :: l2 :: l3 :: l4 :: l5 :: l6 :: l7 :: l8 :: l9 :: L) 9 = true) (kk : mOk M d mc ms (pc + 2) (l0 :: l1 :: l2 :: l3 :: l4 :: l5 :: l6 :: l7 :: l8 :: some (.int x) :: L) st h n k Q) : mOk M d mc ms pc (l0 :: l1 :: l2 :: l3 :: l4 :: l5 :: l6 :: l7 :: l8 :: l9 :: L) (.int x :: st) h n k Q :=
  fun D base cy p l e s m args below meth c H locs ls hX hK hP hS hB hL => lv_istore (nL := M.2.2.1) (lv := mi_al base (l0 :: l1 :: l2 :: l3 :: l4 :: l5 :: l6 :: l7 :: l8 :: l9 :: L)) hX.1 hX.2.1 hd hL.has hn rfl (fun ls1 hl1 => kk D base cy p l e s m args below meth c H locs ls1 hX hK hP hS hB (mi_L.of1 (L := l0 :: l1 :: l2 :: l3 :: l4 :: l5 :: l6 :: l7 :: l8 :: l9 :: L) (i := 9) (v := .int x) hs hl1))
theorem mOk.astore9 {l0 l1 l2 l3 l4 l5 l6 l7 l8 l9 : Option Value} {x : Nat} (hd : decode M.2.1 pc = .ok (.astore 9, 2)) (hn : 9 < M.2.2.1) (hs : mi_s (l0 :: l1 :: l2 :: l3 :: l4 :: l5 :: l6 :: l7 :: l8 :: l9 :: L) 9 = true) (kk : mOk M d mc ms (pc + 2) (l0 :: l1 :: l2 :: l3 :: l4 :: l5 :: l6 :: l7 :: l8 :: some (.ref x) :: L) st h n k Q) : mOk M d mc ms pc (l0 :: l1 :: l2 :: l3 :: l4 :: l5 :: l6 :: l7 :: l8 :: l9 :: L) (.ref x :: st) h n k Q :=
  fun D base cy p l e s m args below meth c H locs ls hX hK hP hS hB hL => lv_astore (nL := M.2.2.1) (lv := mi_al base (l0 :: l1 :: l2 :: l3 :: l4 :: l5 :: l6 :: l7 :: l8 :: l9 :: L)) hX.1 hX.2.1 hd hL.has hn rfl (fun ls1 hl1 => kk D base cy p l e s m args below meth c H locs ls1 hX hK hP hS hB (mi_L.of1 (L := l0 :: l1 :: l2 :: l3 :: l4 :: l5 :: l6 :: l7 :: l8 :: l9 :: L) (i := 9) (v := .ref x) hs hl1))
theorem mOk.astoreN9 {l0 l1 l2 l3 l4 l5 l6 l7 l8 l9 : Option Value}  (hd : decode M.2.1 pc = .ok (.astore 9, 2)) (hn : 9 < M.2.2.1) (hs : mi_s (l0 :: l1 :: l2 :: l3 :: l4 :: l5 :: l6 :: l7 :: l8 :: l9 :: L) 9 = true) (kk : mOk M d mc ms (pc + 2) (l0 :: l1 :: l2 :: l3 :: l4 :: l5 :: l6 :: l7 :: l8 :: some (.null) :: L) st h n k Q) : mOk M d mc ms pc (l0 :: l1 :: l2 :: l3 :: l4 :: l5 :: l6 :: l7 :: l8 :: l9 :: L) (.null :: st) h n k Q :=
  fun D base cy p l e s m args below meth c H locs ls hX hK hP hS hB hL => lv_astoreN (nL := M.2.2.1) (lv := mi_al base (l0 :: l1 :: l2 :: l3 :: l4 :: l5 :: l6 :: l7 :: l8 :: l9 :: L)) hX.1 hX.2.1 hd hL.has hn rfl (fun ls1 hl1 => kk D base cy p l e s m args below meth c H locs ls1 hX hK hP hS hB (mi_L.of1 (L := l0 :: l1 :: l2 :: l3 :: l4 :: l5 :: l6 :: l7 :: l8 :: l9 :: L) (i := 9) (v := .null) hs hl1))
theorem mOk.lstore9 {l0 l1 l2 l3 l4 l5 l6 l7 l8 l9 l10 : Option Value} {x : Int64} (hd : decode M.2.1 pc = .ok (.lstore 9, 2)) (hn : 9 + 1 < M.2.2.1) (hs : mi_s (l0 :: l1 :: l2 :: l3 :: l4 :: l5 :: l6 :: l7 :: l8 :: l9 :: l10 :: L) 9 = true) (kk : mOk M d mc ms (pc + 2) (l0 :: l1 :: l2 :: l3 :: l4 :: l5 :: l6 :: l7 :: l8 :: some (.long x) :: none :: L) st h n k Q) : mOk M d mc ms pc (l0 :: l1 :: l2 :: l3 :: l4 :: l5 :: l6 :: l7 :: l8 :: l9 :: l10 :: L) (.long x :: st) h n k Q :=
  fun D base cy p l e s m args below meth c H locs ls hX hK hP hS hB hL => lv_lstore (nL := M.2.2.1) (lv := mi_al base (l0 :: l1 :: l2 :: l3 :: l4 :: l5 :: l6 :: l7 :: l8 :: l9 :: l10 :: L)) hX.1 hX.2.1 hd hL.has hn rfl (fun ls1 hl1 => kk D base cy p l e s m args below meth c H locs ls1 hX hK hP hS hB (mi_L.of2 (L := l0 :: l1 :: l2 :: l3 :: l4 :: l5 :: l6 :: l7 :: l8 :: l9 :: l10 :: L) (i := 9) (v := .long x) hs hl1))
theorem mOk.iinc9 {l0 l1 l2 l3 l4 l5 l6 l7 l8 : Option Value} {x y : Int32} {z : Int} (hd : decode M.2.1 pc = .ok (.iinc 9 z, 3)) (hv : x + Int32.ofInt z = y) (hn : 9 < M.2.2.1) (hs : mi_s (l0 :: l1 :: l2 :: l3 :: l4 :: l5 :: l6 :: l7 :: l8 :: some (.int x) :: L) 9 = true) (kk : mOk M d mc ms (pc + 3) (l0 :: l1 :: l2 :: l3 :: l4 :: l5 :: l6 :: l7 :: l8 :: some (.int y) :: L) st h n k Q) : mOk M d mc ms pc (l0 :: l1 :: l2 :: l3 :: l4 :: l5 :: l6 :: l7 :: l8 :: some (.int x) :: L) st h n k Q := by
  intro D base cy p l e s m args below meth c H locs ls hX hK hP hS hB hL
  obtain ⟨j, hj⟩ := List.getElem?_of_mem (mi_al_in (base := base) (L := l0 :: l1 :: l2 :: l3 :: l4 :: l5 :: l6 :: l7 :: l8 :: some (.int x) :: L) (q := (9, .int x)) |>.mpr ⟨.int x, rfl, rfl⟩)
  exact lv_iinc (nL := M.2.2.1) (k := j) (lv := mi_al base (l0 :: l1 :: l2 :: l3 :: l4 :: l5 :: l6 :: l7 :: l8 :: some (.int x) :: L)) hX.1 hX.2.1 hd hL.has hj hv hn rfl (fun ls1 hl1 => kk D base cy p l e s m args below meth c H locs ls1 hX hK hP hS hB (mi_L.of1 (L := l0 :: l1 :: l2 :: l3 :: l4 :: l5 :: l6 :: l7 :: l8 :: some (.int x) :: L) (i := 9) (v := .int y) hs hl1))
theorem mOk.ifeq {x : Int32} {off : Int} {tgt : Nat} (hd : decode M.2.1 pc = .ok (.ifCond .eq off, 3)) (ht : (pc : Int) + off = (tgt : Int)) (kt : x = 0 → mOk M d mc ms tgt L st h n k Q) (kf : ¬ x = 0 → mOk M d mc ms (pc + 3) L st h n k Q) : mOk M d mc ms pc L (.int x :: st) h n k Q :=
  fun D base cy p l e s m args below meth c H locs ls hX hK hP hS hB hL => lv_if_eq hX.1 hX.2.1 hd ht (fun z => kt z D base cy p l e s m args below meth c H locs ls hX hK hP hS hB hL) (fun z => kf z D base cy p l e s m args below meth c H locs ls hX hK hP hS hB hL)
theorem mOk.iceq {x y : Int32} {off : Int} {tgt : Nat} (hd : decode M.2.1 pc = .ok (.if_icmp .eq off, 3)) (ht : (pc : Int) + off = (tgt : Int)) (kt : x = y → mOk M d mc ms tgt L st h n k Q) (kf : ¬ x = y → mOk M d mc ms (pc + 3) L st h n k Q) : mOk M d mc ms pc L (.int y :: .int x :: st) h n k Q :=
  fun D base cy p l e s m args below meth c H locs ls hX hK hP hS hB hL => lv_icmp_eq hX.1 hX.2.1 hd ht (fun z => kt z D base cy p l e s m args below meth c H locs ls hX hK hP hS hB hL) (fun z => kf z D base cy p l e s m args below meth c H locs ls hX hK hP hS hB hL)
theorem mOk.ifne {x : Int32} {off : Int} {tgt : Nat} (hd : decode M.2.1 pc = .ok (.ifCond .ne off, 3)) (ht : (pc : Int) + off = (tgt : Int)) (kt : ¬ x = 0 → mOk M d mc ms tgt L st h n k Q) (kf : x = 0 → mOk M d mc ms (pc + 3) L st h n k Q) : mOk M d mc ms pc L (.int x :: st) h n k Q :=
  fun D base cy p l e s m args below meth c H locs ls hX hK hP hS hB hL => lv_if_ne hX.1 hX.2.1 hd ht (fun z => kt z D base cy p l e s m args below meth c H locs ls hX hK hP hS hB hL) (fun z => kf z D base cy p l e s m args below meth c H locs ls hX hK hP hS hB hL)
theorem mOk.icne {x y : Int32} {off : Int} {tgt : Nat} (hd : decode M.2.1 pc = .ok (.if_icmp .ne off, 3)) (ht : (pc : Int) + off = (tgt : Int)) (kt : ¬ x = y → mOk M d mc ms tgt L st h n k Q) (kf : x = y → mOk M d mc ms (pc + 3) L st h n k Q) : mOk M d mc ms pc L (.int y :: .int x :: st) h n k Q :=
  fun D base cy p l e s m args below meth c H locs ls hX hK hP hS hB hL => lv_icmp_ne hX.1 hX.2.1 hd ht (fun z => kt z D base cy p l e s m args below meth c H locs ls hX hK hP hS hB hL) (fun z => kf z D base cy p l e s m args below meth c H locs ls hX hK hP hS hB hL)
theorem mOk.iflt {x : Int32} {off : Int} {tgt : Nat} (hd : decode M.2.1 pc = .ok (.ifCond .lt off, 3)) (ht : (pc : Int) + off = (tgt : Int)) (kt : x < 0 → mOk M d mc ms tgt L st h n k Q) (kf : ¬ x < 0 → mOk M d mc ms (pc + 3) L st h n k Q) : mOk M d mc ms pc L (.int x :: st) h n k Q :=
  fun D base cy p l e s m args below meth c H locs ls hX hK hP hS hB hL => lv_if_lt hX.1 hX.2.1 hd ht (fun z => kt z D base cy p l e s m args below meth c H locs ls hX hK hP hS hB hL) (fun z => kf z D base cy p l e s m args below meth c H locs ls hX hK hP hS hB hL)
theorem mOk.iclt {x y : Int32} {off : Int} {tgt : Nat} (hd : decode M.2.1 pc = .ok (.if_icmp .lt off, 3)) (ht : (pc : Int) + off = (tgt : Int)) (kt : x < y → mOk M d mc ms tgt L st h n k Q) (kf : ¬ x < y → mOk M d mc ms (pc + 3) L st h n k Q) : mOk M d mc ms pc L (.int y :: .int x :: st) h n k Q :=
  fun D base cy p l e s m args below meth c H locs ls hX hK hP hS hB hL => lv_icmp_lt hX.1 hX.2.1 hd ht (fun z => kt z D base cy p l e s m args below meth c H locs ls hX hK hP hS hB hL) (fun z => kf z D base cy p l e s m args below meth c H locs ls hX hK hP hS hB hL)
theorem mOk.ifge {x : Int32} {off : Int} {tgt : Nat} (hd : decode M.2.1 pc = .ok (.ifCond .ge off, 3)) (ht : (pc : Int) + off = (tgt : Int)) (kt : 0 ≤ x → mOk M d mc ms tgt L st h n k Q) (kf : ¬ 0 ≤ x → mOk M d mc ms (pc + 3) L st h n k Q) : mOk M d mc ms pc L (.int x :: st) h n k Q :=
  fun D base cy p l e s m args below meth c H locs ls hX hK hP hS hB hL => lv_if_ge hX.1 hX.2.1 hd ht (fun z => kt z D base cy p l e s m args below meth c H locs ls hX hK hP hS hB hL) (fun z => kf z D base cy p l e s m args below meth c H locs ls hX hK hP hS hB hL)
theorem mOk.icge {x y : Int32} {off : Int} {tgt : Nat} (hd : decode M.2.1 pc = .ok (.if_icmp .ge off, 3)) (ht : (pc : Int) + off = (tgt : Int)) (kt : y ≤ x → mOk M d mc ms tgt L st h n k Q) (kf : ¬ y ≤ x → mOk M d mc ms (pc + 3) L st h n k Q) : mOk M d mc ms pc L (.int y :: .int x :: st) h n k Q :=
  fun D base cy p l e s m args below meth c H locs ls hX hK hP hS hB hL => lv_icmp_ge hX.1 hX.2.1 hd ht (fun z => kt z D base cy p l e s m args below meth c H locs ls hX hK hP hS hB hL) (fun z => kf z D base cy p l e s m args below meth c H locs ls hX hK hP hS hB hL)
theorem mOk.ifgt {x : Int32} {off : Int} {tgt : Nat} (hd : decode M.2.1 pc = .ok (.ifCond .gt off, 3)) (ht : (pc : Int) + off = (tgt : Int)) (kt : 0 < x → mOk M d mc ms tgt L st h n k Q) (kf : ¬ 0 < x → mOk M d mc ms (pc + 3) L st h n k Q) : mOk M d mc ms pc L (.int x :: st) h n k Q :=
  fun D base cy p l e s m args below meth c H locs ls hX hK hP hS hB hL => lv_if_gt hX.1 hX.2.1 hd ht (fun z => kt z D base cy p l e s m args below meth c H locs ls hX hK hP hS hB hL) (fun z => kf z D base cy p l e s m args below meth c H locs ls hX hK hP hS hB hL)
theorem mOk.icgt {x y : Int32} {off : Int} {tgt : Nat} (hd : decode M.2.1 pc = .ok (.if_icmp .gt off, 3)) (ht : (pc : Int) + off = (tgt : Int)) (kt : y < x → mOk M d mc ms tgt L st h n k Q) (kf : ¬ y < x → mOk M d mc ms (pc + 3) L st h n k Q) : mOk M d mc ms pc L (.int y :: .int x :: st) h n k Q :=
  fun D base cy p l e s m args below meth c H locs ls hX hK hP hS hB hL => lv_icmp_gt hX.1 hX.2.1 hd ht (fun z => kt z D base cy p l e s m args below meth c H locs ls hX hK hP hS hB hL) (fun z => kf z D base cy p l e s m args below meth c H locs ls hX hK hP hS hB hL)
theorem mOk.ifle {x : Int32} {off : Int} {tgt : Nat} (hd : decode M.2.1 pc = .ok (.ifCond .le off, 3)) (ht : (pc : Int) + off = (tgt : Int)) (kt : x ≤ 0 → mOk M d mc ms tgt L st h n k Q) (kf : ¬ x ≤ 0 → mOk M d mc ms (pc + 3) L st h n k Q) : mOk M d mc ms pc L (.int x :: st) h n k Q :=
  fun D base cy p l e s m args below meth c H locs ls hX hK hP hS hB hL => lv_if_le hX.1 hX.2.1 hd ht (fun z => kt z D base cy p l e s m args below meth c H locs ls hX hK hP hS hB hL) (fun z => kf z D base cy p l e s m args below meth c H locs ls hX hK hP hS hB hL)
theorem mOk.icle {x y : Int32} {off : Int} {tgt : Nat} (hd : decode M.2.1 pc = .ok (.if_icmp .le off, 3)) (ht : (pc : Int) + off = (tgt : Int)) (kt : x ≤ y → mOk M d mc ms tgt L st h n k Q) (kf : ¬ x ≤ y → mOk M d mc ms (pc + 3) L st h n k Q) : mOk M d mc ms pc L (.int y :: .int x :: st) h n k Q :=
  fun D base cy p l e s m args below meth c H locs ls hX hK hP hS hB hL => lv_icmp_le hX.1 hX.2.1 hd ht (fun z => kt z D base cy p l e s m args below meth c H locs ls hX hK hP hS hB hL) (fun z => kf z D base cy p l e s m args below meth c H locs ls hX hK hP hS hB hL)
theorem mOk.goto {off : Int} {tgt : Nat} (hd : decode M.2.1 pc = .ok (.goto off, 3)) (ht : (pc : Int) + off = (tgt : Int)) (kk : mOk M d mc ms tgt L st h n k Q) : mOk M d mc ms pc L st h n k Q :=
  fun D base cy p l e s m args below meth c H locs ls hX hK hP hS hB hL => lv_goto hX.1 hX.2.1 hd ht (kk D base cy p l e s m args below meth c H locs ls hX hK hP hS hB hL)
theorem mOk.ifnull_r {x : Nat} {off : Int} (hd : decode M.2.1 pc = .ok (.ifnull off, 3)) (kk : mOk M d mc ms (pc + 3) L st h n k Q) : mOk M d mc ms pc L (.ref x :: st) h n k Q :=
  fun D base cy p l e s m args below meth c H locs ls hX hK hP hS hB hL => lv_ifnull hX.1 hX.2.1 hd (kk D base cy p l e s m args below meth c H locs ls hX hK hP hS hB hL)
theorem mOk.ifnull_n {off : Int} {tgt : Nat} (hd : decode M.2.1 pc = .ok (.ifnull off, 3)) (ht : (pc : Int) + off = (tgt : Int)) (kk : mOk M d mc ms tgt L st h n k Q) : mOk M d mc ms pc L (.null :: st) h n k Q :=
  fun D base cy p l e s m args below meth c H locs ls hX hK hP hS hB hL => lv_ifnullN hX.1 hX.2.1 hd ht (kk D base cy p l e s m args below meth c H locs ls hX hK hP hS hB hL)
theorem mOk.ifnonnull_n {off : Int} (hd : decode M.2.1 pc = .ok (.ifnonnull off, 3)) (kk : mOk M d mc ms (pc + 3) L st h n k Q) : mOk M d mc ms pc L (.null :: st) h n k Q :=
  fun D base cy p l e s m args below meth c H locs ls hX hK hP hS hB hL => lv_ifnonnullN hX.1 hX.2.1 hd (kk D base cy p l e s m args below meth c H locs ls hX hK hP hS hB hL)
theorem mOk.ifnonnull_r {x : Nat} {off : Int} {tgt : Nat} (hd : decode M.2.1 pc = .ok (.ifnonnull off, 3)) (ht : (pc : Int) + off = (tgt : Int)) (kk : mOk M d mc ms tgt L st h n k Q) : mOk M d mc ms pc L (.ref x :: st) h n k Q :=
  fun D base cy p l e s m args below meth c H locs ls hX hK hP hS hB hL => lv_ifnonnull hX.1 hX.2.1 hd ht (kk D base cy p l e s m args below meth c H locs ls hX hK hP hS hB hL)
theorem mOk.acmpeq {x y : Nat} {off : Int} {tgt : Nat} (hd : decode M.2.1 pc = .ok (.if_acmp .eq off, 3)) (ht : (pc : Int) + off = (tgt : Int)) (kt : x = y → mOk M d mc ms tgt L st h n k Q) (kf : ¬ x = y → mOk M d mc ms (pc + 3) L st h n k Q) : mOk M d mc ms pc L (.ref y :: .ref x :: st) h n k Q :=
  fun D base cy p l e s m args below meth c H locs ls hX hK hP hS hB hL => lv_acmp_eq (rx := some (base + x)) (ry := some (base + y)) hX.1 hX.2.1 hd ht (fun z => kt (by have := Option.some.inj z; omega) D base cy p l e s m args below meth c H locs ls hX hK hP hS hB hL) (fun z => kf (fun z2 => z (by rw [z2])) D base cy p l e s m args below meth c H locs ls hX hK hP hS hB hL)
theorem mOk.tableIn {dflt lo hi : Int} {offs : Array Int} {len : Nat} {x : Int32} {off : Int} {tgt : Nat} (hd : decode M.2.1 pc = .ok (.tableswitch dflt lo hi offs, len)) (h1 : ¬ x.toInt < lo) (h2 : ¬ hi < x.toInt) (ho : offs[(x.toInt - lo).toNat]? = some off) (ht : (pc : Int) + off = (tgt : Int)) (kk : mOk M d mc ms tgt L st h n k Q) : mOk M d mc ms pc L (.int x :: st) h n k Q :=
  fun D base cy p l e s m args below meth c H locs ls hX hK hP hS hB hL => lv_tableIn hX.1 hX.2.1 hd h1 h2 ho ht (kk D base cy p l e s m args below meth c H locs ls hX hK hP hS hB hL)
theorem mOk.tableOut {dflt lo hi : Int} {offs : Array Int} {len : Nat} {x : Int32} {tgt : Nat} (hd : decode M.2.1 pc = .ok (.tableswitch dflt lo hi offs, len)) (h1 : x.toInt < lo ∨ hi < x.toInt) (ht : (pc : Int) + dflt = (tgt : Int)) (kk : mOk M d mc ms tgt L st h n k Q) : mOk M d mc ms pc L (.int x :: st) h n k Q :=
  fun D base cy p l e s m args below meth c H locs ls hX hK hP hS hB hL => lv_tableOut hX.1 hX.2.1 hd h1 ht (kk D base cy p l e s m args below meth c H locs ls hX hK hP hS hB hL)
theorem mOk.lookup {dflt : Int} {ps : Array (Int × Int)} {len : Nat} {x : Int32} {off : Int} {tgt : Nat} (hd : decode M.2.1 pc = .ok (.lookupswitch dflt ps, len)) (hp : (ps.toList.zip (ps.toList.drop 1)).all (fun (a, next) => a.1 < next.1) = true) (ho : Op.lookupswitch.offset ps.toList dflt x.toInt = off) (ht : (pc : Int) + off = (tgt : Int)) (kk : mOk M d mc ms tgt L st h n k Q) : mOk M d mc ms pc L (.int x :: st) h n k Q :=
  fun D base cy p l e s m args below meth c H locs ls hX hK hP hS hB hL => lv_lookup hX.1 hX.2.1 hd hp ho ht (kk D base cy p l e s m args below meth c H locs ls hX hK hP hS hB hL)
theorem mOk.top {x y : Int32} (e : x = y) (kk : mOk M d mc ms pc L (.int y :: st) h n k Q) : mOk M d mc ms pc L (.int x :: st) h n k Q := e ▸ kk
theorem mOk.topl {x y : Int64} (e : x = y) (kk : mOk M d mc ms pc L (.long y :: st) h n k Q) : mOk M d mc ms pc L (.long x :: st) h n k Q := e ▸ kk
end MR
end
section
section MH
variable {M : mi_M} {d mc ms pc n k : Nat} {L : List (Option Value)} {st : List Value} {h : mi_H} {Q : Option Value → mi_H → Prop}
/-! fields -/
theorem mi_fs_at {base : Nat} {P : Nat → Option Nat} {I : Nat → Int32} {ci N f : Nat} (hf : f < N) : ((List.range N).map (mi_fv base P I ci))[f]? = some (mi_fv base P I ci f) := by
  rw [List.getElem?_map, List.getElem?_range hf]; rfl
theorem mOk.getI {idx ci N f a : Nat} {fin : Bool} (hd : decode M.2.1 pc = .ok (.getfield idx, 3)) (hl : mi_fl M.1.cls idx ci N f fin false) (hk : h.1[a]? = some (ci, N)) (kk : mOk M d mc ms (pc + 3) L (.int (h.2.2.1 a f) :: st) h n k Q) : mOk M d mc ms pc L (.ref a :: st) h n k Q := by
  intro D base cy p l e s m args below meth c H locs ls hX hK hP hS hB hL
  obtain ⟨C, T, ty0, hci, hf, hcl, hlk, hws, hC, hty, hnm, hfin, hrf, -⟩ := hl
  have hat := hP.2 a _ hk
  rw [mi_cc_o hci] at hat
  have hv : ((List.range N).map (mi_fv base (h.2.1 a) (h.2.2.1 a) ci))[f]? = some (.int (h.2.2.1 a f)) := by
    rw [mi_fs_at hf]; unfold mi_fv; rw [hrf]
  refine va_get (D := D) (cl := vwCl) (ws := [(base + a, .inr (ci, (List.range N).map (mi_fv base (h.2.1 a) (h.2.2.1 a) ci)))]) (C := C) (T := T) (N := N) (ci := ci) (ref := C) hX.1 hX.2.1 hX.2.2.2.2.2.1 hws hX.2.2.2.2.1 hK.1 (fun j q hj => ?_) 0 rfl hcl f hf (hX.2.2.2.2.2.1 _ hlk) (fun x hx => by rw [← hC]; exact hx) hv hd (kk D base cy p l e s m args below meth c H locs ls hX hK hP hS hB hL)
  have hz : j < 1 := (List.getElem?_eq_some_iff.mp hj).1
  rw [show j = 0 by omega] at hj
  cases hj
  exact hat
theorem mOk.getR {idx ci N f a r : Nat} {fin : Bool} (hd : decode M.2.1 pc = .ok (.getfield idx, 3)) (hl : mi_fl M.1.cls idx ci N f fin true) (hk : h.1[a]? = some (ci, N)) (hr : h.2.1 a f = some r) (kk : mOk M d mc ms (pc + 3) L (.ref r :: st) h n k Q) : mOk M d mc ms pc L (.ref a :: st) h n k Q := by
  intro D base cy p l e s m args below meth c H locs ls hX hK hP hS hB hL
  obtain ⟨C, T, ty0, hci, hf, hcl, hlk, hws, hC, hty, hnm, hfin, hrf, -⟩ := hl
  have hat := hP.2 a _ hk
  rw [mi_cc_o hci] at hat
  have hv : ((List.range N).map (mi_fv base (h.2.1 a) (h.2.2.1 a) ci))[f]? = some (.ref (base + r)) := by
    rw [mi_fs_at hf]; unfold mi_fv; rw [hrf, hr]; rfl
  refine va_get (D := D) (cl := vwCl) (ws := [(base + a, .inr (ci, (List.range N).map (mi_fv base (h.2.1 a) (h.2.2.1 a) ci)))]) (C := C) (T := T) (N := N) (ci := ci) (ref := C) hX.1 hX.2.1 hX.2.2.2.2.2.1 hws hX.2.2.2.2.1 hK.1 (fun j q hj => ?_) 0 rfl hcl f hf (hX.2.2.2.2.2.1 _ hlk) (fun x hx => by rw [← hC]; exact hx) hv hd (kk D base cy p l e s m args below meth c H locs ls hX hK hP hS hB hL)
  have hz : j < 1 := (List.getElem?_eq_some_iff.mp hj).1
  rw [show j = 0 by omega] at hj
  cases hj
  exact hat
/-- a field is written -/
theorem mi_put {p : Program} {l : Launch} {e : Env} {R : Room} {s : State} {m : MethodId} {args : Array Value} {below : List Frame} {meth : Method} {c : Code} {H : Heap} {locs : List Loc} {cells slots : Nat} {Qf : State → Prop} {cc : ByteArray} {D : va_G} {cy : Nat → ClassId} {ls : Array Slot} {rest : List Value}
    (hexec : p.tables.exec = Jvm.exec) (hb : c.code = cc) {own : String} {idx ci N f : Nat} {fin rf : Bool} (hl : mi_fl own idx ci N f fin rf) (hts : ∀ w ∈ gw, w.before args s = true) (hown : s.vm.findClass own = some m.cls) (hin : fin = true → meth.name = "<init>" ∧ vwCl[ci]?.map (fun q => q.1) = some own) (hK : mi_K D cy s) {a : Nat} {fs : List Value} (hat : va_at D vwCl (a, .inr (ci, fs)) H) (hfs : fs.length = N) {v : Value} (hv : match rf with
      | true => ∃ r, v = .ref r
      | false => ∃ x, v = .int x) (hdg : decode cc pc = .ok (.putfield idx, 3))
    (kk : ∀ (H' : Heap) (sl : Nat), va_at D vwCl (a, .inr (ci, fs.set f v)) H' → H'.size = H.size → (∀ q, q ≠ a → H'[q]? = H[q]?) → W p l e R s m args below meth c H' (locs ++ [⟨a, sl⟩]) cells slots Qf (F0 m (pc + 3) ls rest)) :
    W p l e R s m args below meth c H locs cells slots Qf (F0 m pc ls (v :: .ref a :: rest)) := by
  obtain ⟨C, T, ty0, hci, hf, hcl, hlk, hws, hC, hty, hnm, hfin, hrf, htf⟩ := hl
  have hap := va_apart (D := D) (cl := vwCl) (own := own) hts hws ty0 hty hnm hK.1 hcl
  obtain ⟨r, h1, cell, q1, q2, q3, q4⟩ := hat
  have hr : r = (C, T, N) := Option.some.inj (h1.symm.trans hcl)
  subst hr
  obtain ⟨hSl, hfc, kC, hkC, hkind⟩ := hK.1.1 ci _ hcl
  obtain ⟨cf, kf, fi, fd, hi, hsl⟩ := hSl f hf
  have hst := (u_facts hfc hkC (u_lays hts hws hf) hi).1
  have hlay := hts _ (hws _ (u_in_lay hf))
  have hn : narrow (ty0 f) v = v ∧ fits (ty0 f) v = true := by
    cases rf with
    | true => obtain ⟨r, rfl⟩ := hv; rcases htf with ⟨x, hx⟩ | ⟨x, hx⟩ <;> rw [hx] <;> exact ⟨rfl, rfl⟩
    | false => obtain ⟨x, rfl⟩ := hv; rw [show ty0 f = .int from htf]; exact ⟨rfl, rfl⟩
  have hi2 : s.fieldFound? C (T f).2.1 (T f).2.2.1 = some (cf, kf, fi, fd) := by rw [← hC]; exact hi
  have fin1 : ∀ H' : Heap, H'[a]? = some (cell.setSlot fd.slot v) → va_at D vwCl (a, .inr (ci, fs.set f v)) H' := fun H' e1 => by
    rw [hsl] at e1
    exact ⟨_, hcl, t_OB.to (V := updV (vp_V fs) f v) ⟨_, e1, q2, q3, t_set q4 hap hf v⟩ (fun j _ => vp_updV_set (by rw [hfs]; exact hf) v j)⟩
  cases fin with
  | false =>
    unfold u_lay at hlay
    rw [if_neg (by rw [hfin]; decide)] at hlay
    have h6 := u_store hfc hkC hkind hlay hi (hty f hf) hn.1 hn.2
    exact W.putK hexec hb (f := fd) ⟨hown, hts _ hlk, ⟨_, _, _, hi2⟩, hst⟩ (by rw [q2]; exact h6) q1 q3 (by rw [hsl]; exact k2_hasslot (q4 f hf)) rfl rfl hdg fun H' e1 e2 e3 => kk H' _ (fin1 H' e1) e2 e3
  | true =>
    obtain ⟨hin2, hown2⟩ := hin rfl
    unfold u_lay at hlay
    rw [if_pos hfin] at hlay
    have hCo : C = own := by rw [hcl] at hown2; exact Option.some.inj hown2
    have hcf : m.cls = cf := by
      obtain ⟨_, _, c', _, _, _, -, -, hf', -, -, -, hown3, -⟩ := Cond.laysFinal_spec hlay
      have e1 : c' = cf := by have := hi.symm.trans hf'; simp at this; exact this.1.symm
      rw [hC, hCo] at hown3
      rw [← e1]; exact Option.some.inj (hown.symm.trans hown3)
    have h6 := u_fits hfc hkC hkind (Or.inr hlay) hi (hty f hf) hn.1 hn.2
    exact W.putFinK hexec hb hown (hts _ hlk) hi2 hst hcf hin2 (by rw [q2]; exact h6) q1 q3 (by rw [hsl]; exact k2_hasslot (q4 f hf)) rfl rfl hdg fun H' e1 e2 e3 => kk H' _ (fin1 H' e1) e2 e3
/-- the world with an int written, a reference written, a long written -/
def mi_wI (h : mi_H) (a i : Nat) (x : Int32) : mi_H := (h.1, h.2.1, va_up h.2.2.1 a (va_up (h.2.2.1 a) i x), h.2.2.2)
def mi_wR (h : mi_H) (a i r : Nat) : mi_H := (h.1, va_up h.2.1 a (va_up (h.2.1 a) i (some r)), h.2.2.1, h.2.2.2)
def mi_wJ (h : mi_H) (a i : Nat) (x : Int64) : mi_H := (h.1, h.2.1, h.2.2.1, va_up h.2.2.2 a (va_up (h.2.2.2 a) i x))
theorem va_up_s {α : Type} (f : Nat → α) (a : Nat) (v : α) : va_up f a v a = v := if_pos rfl
theorem va_up_n {α : Type} {f : Nat → α} {a b : Nat} {v : α} (h : b ≠ a) : va_up f a v b = f b := if_neg h
theorem mi_fs_set {base : Nat} {P P' : Nat → Option Nat} {I I' : Nat → Int32} {ci N f : Nat} {v : Value} (hv : mi_fv base P' I' ci f = v) (ho : ∀ j, j ≠ f → mi_fv base P' I' ci j = mi_fv base P I ci j) : ((List.range N).map (mi_fv base P I ci)).set f v = (List.range N).map (mi_fv base P' I' ci) := by
  apply List.ext_getElem?
  intro j
  by_cases e : f = j
  · subst e
    by_cases hl : f < N
    · rw [List.getElem?_set_self (by simpa using hl), List.getElem?_map, List.getElem?_range hl]
      show some v = some _
      rw [hv]
    · rw [List.set_eq_of_length_le (by simpa using hl)]
      simp [hl]
  · rw [List.getElem?_set_ne e, List.getElem?_map, List.getElem?_map]
    by_cases hl : j < N
    · rw [List.getElem?_range hl]
      show some _ = some _
      rw [ho j (fun z => e z.symm)]
    · simp [hl]
theorem mOk.putI {idx ci N f a : Nat} {x : Int32} (hd : decode M.2.1 pc = .ok (.putfield idx, 3)) (hl : mi_fl M.1.cls idx ci N f false false) (hk : h.1[a]? = some (ci, N)) (kk : mOk M d mc ms (pc + 3) L st (mi_wI h a f x) n k Q) : mOk M d mc ms pc L (.int x :: .ref a :: st) h n k Q := by
  intro D base cy p l e s m args below meth c H locs ls hX hK hP hS hB hL
  have hat := hP.2 a _ hk
  obtain ⟨C, T, ty0, hci, hf, hcl, hlk, hws, hC, hty, hnm, hfin, hrf, htf⟩ := id hl
  rw [mi_cc_o hci] at hat
  refine mi_put hX.1 hX.2.1 hl hX.2.2.2.2.2.1 hX.2.2.2.2.1 (fun z => by cases z) hK hat (by simp) ⟨x, rfl⟩ hd fun H' sl e1 e2 e3 => ?_
  refine kk D base cy p l e s m args below meth c H' _ ls hX hK (hP.set (a := a) rfl e2 e3 (fun b hb => ⟨rfl, va_up_n hb, rfl⟩) (fun q hq => ?_)) (hS.put e2 e3 (Nat.le_add_right _ _)) hB hL
  cases hk.symm.trans hq
  rw [mi_cc_o hci]
  rw [mi_fs_set (P' := (mi_wI h a f x).2.1 a) (I' := (mi_wI h a f x).2.2.1 a)] at e1
  · exact e1
  · unfold mi_fv mi_wI; rw [hrf]; simp [va_up, mi_e]
  · intro j hj; unfold mi_fv mi_wI; simp [va_up, hj]
theorem mOk.putR {idx ci N f a r : Nat} {fin : Bool} (hd : decode M.2.1 pc = .ok (.putfield idx, 3)) (hl : mi_fl M.1.cls idx ci N f fin true) (hin : fin = true → M.1.name = "<init>" ∧ vwCl[ci]?.map (fun q => q.1) = some M.1.cls) (hk : h.1[a]? = some (ci, N)) (kk : mOk M d mc ms (pc + 3) L st (mi_wR h a f r) n k Q) : mOk M d mc ms pc L (.ref r :: .ref a :: st) h n k Q := by
  intro D base cy p l e s m args below meth c H locs ls hX hK hP hS hB hL
  have hat := hP.2 a _ hk
  obtain ⟨C, T, ty0, hci, hf, hcl, hlk, hws, hC, hty, hnm, hfin, hrf, htf⟩ := id hl
  rw [mi_cc_o hci] at hat
  refine mi_put hX.1 hX.2.1 hl hX.2.2.2.2.2.1 hX.2.2.2.2.1 (fun z => ⟨hX.2.2.2.2.2.2.2.trans (hin z).1, (hin z).2⟩) hK hat (by simp) ⟨base + r, rfl⟩ hd fun H' sl e1 e2 e3 => ?_
  refine kk D base cy p l e s m args below meth c H' _ ls hX hK (hP.set (a := a) rfl e2 e3 (fun b hb => ⟨va_up_n hb, rfl, rfl⟩) (fun q hq => ?_)) (hS.put e2 e3 (Nat.le_add_right _ _)) hB hL
  cases hk.symm.trans hq
  rw [mi_cc_o hci]
  rw [mi_fs_set (P' := (mi_wR h a f r).2.1 a) (I' := (mi_wR h a f r).2.2.1 a)] at e1
  · exact e1
  · unfold mi_fv mi_wR; rw [hrf]; simp [va_up, mi_o, va_rf, mi_e]
  · intro j hj; unfold mi_fv mi_wR; simp [va_up, hj]
/-! arrays -/
theorem mi_inN {j N : Nat} (hj : j < N) (hN : N < 2147483648) : vp_in (nI j) N := vp_in_nI hj hN
theorem mOk.iald {a N j : Nat} {i : Int32} (hd : decode M.2.1 pc = .ok (.iaload, 1)) (hk : h.1[a]? = some (10, N)) (hi : i = nI j) (hj : j < N) (hN : N < 2147483648) (kk : mOk M d mc ms (pc + 1) L (.int (h.2.2.1 a j) :: st) h n k Q) : mOk M d mc ms pc L (.int i :: .ref a :: st) h n k Q := by
  intro D base cy p l e s m args below meth c H locs ls hX hK hP hS hB hL
  subst hi
  have hat := hP.2 a _ hk
  have hc := nI_clamp (show j < 2 ^ 31 by omega)
  refine va_iald (D := D) (cl := vwCl) (tys := mi_tys cy) (ws := [(base + a, .inl (cy 0, N, .inl (h.2.2.1 a)))]) hX.1 hX.2.1 hK.1 (fun i q hq => ?_) 0 0 rfl rfl (mi_inN hj hN) hd ?_
  · have hz : i < 1 := (List.getElem?_eq_some_iff.mp hq).1
    rw [show i = 0 by omega] at hq
    cases hq
    exact hat
  · rw [hc]
    exact kk D base cy p l e s m args below meth c H locs ls hX hK hP hS hB hL
theorem mOk.lald {a N j : Nat} {i : Int32} (hd : decode M.2.1 pc = .ok (.laload, 1)) (hk : h.1[a]? = some (11, N)) (hi : i = nI j) (hj : j < N) (hN : N < 2147483648) (kk : mOk M d mc ms (pc + 1) L (.long (h.2.2.2 a j) :: st) h n k Q) : mOk M d mc ms pc L (.int i :: .ref a :: st) h n k Q := by
  intro D base cy p l e s m args below meth c H locs ls hX hK hP hS hB hL
  subst hi
  have hat := hP.2 a _ hk
  have hc := nI_clamp (show j < 2 ^ 31 by omega)
  refine va_lald (D := D) (cl := vwCl) (tys := mi_tys cy) (ws := [(base + a, .inl (cy 1, N, .inr (.inl (h.2.2.2 a))))]) hX.1 hX.2.1 hK.1 (fun i q hq => ?_) 0 1 rfl rfl (mi_inN hj hN) hd ?_
  · have hz : i < 1 := (List.getElem?_eq_some_iff.mp hq).1
    rw [show i = 0 by omega] at hq
    cases hq
    exact hat
  · rw [hc]
    exact kk D base cy p l e s m args below meth c H locs ls hX hK hP hS hB hL
theorem mOk.zald {a N j : Nat} {i : Int32} (hd : decode M.2.1 pc = .ok (.baload, 1)) (hk : h.1[a]? = some (12, N)) (hi : i = nI j) (hj : j < N) (hN : N < 2147483648) (kk : mOk M d mc ms (pc + 1) L (.int (h.2.2.1 a j) :: st) h n k Q) : mOk M d mc ms pc L (.int i :: .ref a :: st) h n k Q := by
  intro D base cy p l e s m args below meth c H locs ls hX hK hP hS hB hL
  subst hi
  have hat := hP.2 a _ hk
  have hc := nI_clamp (show j < 2 ^ 31 by omega)
  refine va_zald (D := D) (cl := vwCl) (tys := mi_tys cy) (ws := [(base + a, .inl (cy 2, N, .inl (h.2.2.1 a)))]) hX.1 hX.2.1 hK.1 (fun i q hq => ?_) 0 2 rfl rfl (mi_inN hj hN) hd ?_
  · have hz : i < 1 := (List.getElem?_eq_some_iff.mp hq).1
    rw [show i = 0 by omega] at hq
    cases hq
    exact hat
  · rw [hc]
    exact kk D base cy p l e s m args below meth c H locs ls hX hK hP hS hB hL
/-- an array of references: kind 13 (boards) or 14 (rows) -/
def mi_ra (kd : Nat) : Nat × Nat × String := if kd = 13 then (3, 3, RX0) else (4, 4, RX5)
theorem mOk.aald {a kd N j r : Nat} {i : Int32} (hd : decode M.2.1 pc = .ok (.aaload, 1)) (hk : h.1[a]? = some (kd, N)) (hkd : kd = 13 ∨ kd = 14) (hi : i = nI j) (hj : j < N) (hN : N < 2147483648) (hr : h.2.1 a j = some r) (kk : mOk M d mc ms (pc + 1) L (.ref r :: st) h n k Q) : mOk M d mc ms pc L (.int i :: .ref a :: st) h n k Q := by
  intro D base cy p l e s m args below meth c H locs ls hX hK hP hS hB hL
  subst hi
  have hat := hP.2 a _ hk
  have hc := nI_clamp (show j < 2 ^ 31 by omega)
  have key : ∀ (t0 : Nat) (C : String), (mi_tys cy)[t0]? = some (cy t0, .object C) → va_at D vwCl (base + a, .inl (cy t0, N, .inr (.inr (.inr (.inr (fun j => mi_o base (h.2.1 a j))))))) H → W p l e (mi_R d mc ms) s m args below meth c H locs n k (MQ below (mi_Q D base cy Q) args s mc ms (mi_A base)) (F0 m pc ls ((Value.int (nI j) :: .ref a :: st).map (mi_e base))) := by
    intro t0 C ht hat
    refine va_aldq (D := D) (cl := vwCl) (tys := mi_tys cy) (C := C) (ws := [(base + a, .inl (cy t0, N, .inr (.inr (.inr (.inr (fun j => mi_o base (h.2.1 a j)))))))]) hX.1 hX.2.1 hK.1 (fun i q hq => ?_) 0 t0 rfl ht (mi_inN hj hN) hd ?_
    · have hz : i < 1 := (List.getElem?_eq_some_iff.mp hq).1
      rw [show i = 0 by omega] at hq
      cases hq
      exact hat
    · rw [hc, hr]
      exact kk D base cy p l e s m args below meth c H locs ls hX hK hP hS hB hL
  rcases hkd with rfl | rfl
  · exact key 3 RX0 rfl hat
  · exact key 4 RX5 rfl hat
theorem mOk.iast {a N j : Nat} {i x : Int32} (hd : decode M.2.1 pc = .ok (.iastore, 1)) (hk : h.1[a]? = some (10, N)) (hi : i = nI j) (hj : j < N) (hN : N < 2147483648) (kk : mOk M d mc ms (pc + 1) L st (mi_wI h a j x) n k Q) : mOk M d mc ms pc L (.int x :: .int i :: .ref a :: st) h n k Q := by
  intro D base cy p l e s m args below meth c H locs ls hX hK hP hS hB hL
  subst hi
  have hat := hP.2 a _ hk
  have hc := nI_clamp (show j < 2 ^ 31 by omega)
  refine W.iast hX.1 hX.2.1 (show H[base + a]? = some (vp_cell (cy 0) (N, .inl (h.2.2.1 a))) from hat) ((hK.1.2 0 _ rfl).1 N (fun j => .int (h.2.2.1 a j))) (fun q => by cases q) (by show ¬ (nI j < 0 ∨ (arrV _ _ _).slots.size ≤ _); rw [arrV_size]; exact mi_inN hj hN) rfl rfl hd fun H' e1 e2 e3 => ?_
  refine kk D base cy p l e s m args below meth c H' _ ls hX hK (hP.set (a := a) rfl e2 e3 (fun b hb => ⟨rfl, va_up_n hb, rfl⟩) (fun q hq => ?_)) (hS.put e2 e3 (Nat.le_add_right _ _)) hB hL
  cases hk.symm.trans hq
  show H'[base + a]? = some (vp_cell (cy 0) (N, .inl ((mi_wI h a j x).2.2.1 a)))
  rw [e1, hc, vp_cell_i, vp_cell_i, arrV_store]
  congr 2
  funext q
  by_cases hq : q = j
  · subst hq; simp [updV, mi_wI, va_up]
  · simp [updV, mi_wI, va_up, hq]
theorem mOk.last {a N j : Nat} {i : Int32} {x : Int64} (hd : decode M.2.1 pc = .ok (.lastore, 1)) (hk : h.1[a]? = some (11, N)) (hi : i = nI j) (hj : j < N) (hN : N < 2147483648) (kk : mOk M d mc ms (pc + 1) L st (mi_wJ h a j x) n k Q) : mOk M d mc ms pc L (.long x :: .int i :: .ref a :: st) h n k Q := by
  intro D base cy p l e s m args below meth c H locs ls hX hK hP hS hB hL
  subst hi
  have hat := hP.2 a _ hk
  have hc := nI_clamp (show j < 2 ^ 31 by omega)
  refine W.last hX.1 hX.2.1 (show H[base + a]? = some (vp_cell (cy 1) (N, .inr (.inl (h.2.2.2 a)))) from hat) ((hK.1.2 1 _ rfl).1 N (fun j => .long (h.2.2.2 a j))) (fun q => by cases q) (by show ¬ (nI j < 0 ∨ (arrV _ _ _).slots.size ≤ _); rw [arrV_size]; exact mi_inN hj hN) rfl rfl hd fun H' e1 e2 e3 => ?_
  refine kk D base cy p l e s m args below meth c H' _ ls hX hK (hP.set (a := a) rfl e2 e3 (fun b hb => ⟨rfl, rfl, va_up_n hb⟩) (fun q hq => ?_)) (hS.put e2 e3 (Nat.le_add_right _ _)) hB hL
  cases hk.symm.trans hq
  show H'[base + a]? = some (vp_cell (cy 1) (N, .inr (.inl ((mi_wJ h a j x).2.2.2 a))))
  rw [e1, hc, vp_cell_l, vp_cell_l, arrV_store]
  congr 2
  funext q
  by_cases hq : q = j
  · subst hq; simp [updV, mi_wJ, va_up]
  · simp [updV, mi_wJ, va_up, hq]
theorem mOk.zast {a N j : Nat} {i x : Int32} (hd : decode M.2.1 pc = .ok (.bastore, 1)) (hk : h.1[a]? = some (12, N)) (hi : i = nI j) (hj : j < N) (hN : N < 2147483648) (hx : x = 0 ∨ x = 1) (kk : mOk M d mc ms (pc + 1) L st (mi_wI h a j x) n k Q) : mOk M d mc ms pc L (.int x :: .int i :: .ref a :: st) h n k Q := by
  intro D base cy p l e s m args below meth c H locs ls hX hK hP hS hB hL
  subst hi
  have hat := hP.2 a _ hk
  have hc := nI_clamp (show j < 2 ^ 31 by omega)
  have hnx : narrow .boolean (.int x) = .int x := by rcases hx with rfl | rfl <;> rfl
  refine W.zast hX.1 hX.2.1 (show H[base + a]? = some (vp_cell (cy 2) (N, .inl (h.2.2.1 a))) from hat) ((hK.1.2 2 _ rfl).1 N (fun j => .int (h.2.2.1 a j))) (fun q => by cases q) (by show ¬ (nI j < 0 ∨ (arrV _ _ _).slots.size ≤ _); rw [arrV_size]; exact mi_inN hj hN) rfl rfl hd fun H' e1 e2 e3 => ?_
  refine kk D base cy p l e s m args below meth c H' _ ls hX hK (hP.set (a := a) rfl e2 e3 (fun b hb => ⟨rfl, va_up_n hb, rfl⟩) (fun q hq => ?_)) (hS.put e2 e3 (Nat.le_add_right _ _)) hB hL
  cases hk.symm.trans hq
  show H'[base + a]? = some (vp_cell (cy 2) (N, .inl ((mi_wI h a j x).2.2.1 a)))
  rw [e1, hc, hnx, vp_cell_i, vp_cell_i, arrV_store]
  congr 2
  funext q
  by_cases hq : q = j
  · subst hq; simp [updV, mi_wI, va_up]
  · simp [updV, mi_wI, va_up, hq]
theorem mOk.alen {a kd N : Nat} {x : Int32} (hd : decode M.2.1 pc = .ok (.arraylength, 1)) (hk : h.1[a]? = some (kd, N)) (hkd : kd = 10) (hx : nI N = x) (kk : mOk M d mc ms (pc + 1) L (.int x :: st) h n k Q) : mOk M d mc ms pc L (.ref a :: st) h n k Q := by
  intro D base cy p l e s m args below meth c H locs ls hX hK hP hS hB hL
  subst hkd
  have hat := hP.2 a _ hk
  refine va_alen (D := D) (cl := vwCl) (tys := mi_tys cy) (ty := .int) (ws := [(base + a, .inl (cy 0, N, .inl (h.2.2.1 a)))]) hX.1 hX.2.1 hK.1 (fun i q hq => ?_) 0 0 rfl rfl hx hd (kk D base cy p l e s m args below meth c H locs ls hX hK hP hS hB hL)
  have hz : i < 1 := (List.getElem?_eq_some_iff.mp hq).1
  rw [show i = 0 by omega] at hq
  cases hq
  exact hat
theorem mOk.alenJ {a N : Nat} {x : Int32} (hd : decode M.2.1 pc = .ok (.arraylength, 1)) (hk : h.1[a]? = some (11, N)) (hx : nI N = x) (kk : mOk M d mc ms (pc + 1) L (.int x :: st) h n k Q) : mOk M d mc ms pc L (.ref a :: st) h n k Q := by
  intro D base cy p l e s m args below meth c H locs ls hX hK hP hS hB hL
  have hat := hP.2 a _ hk
  refine va_alen (D := D) (cl := vwCl) (tys := mi_tys cy) (ty := .long) (ws := [(base + a, .inl (cy 1, N, .inr (.inl (h.2.2.2 a))))]) hX.1 hX.2.1 hK.1 (fun i q hq => ?_) 0 1 rfl rfl hx hd (kk D base cy p l e s m args below meth c H locs ls hX hK hP hS hB hL)
  have hz : i < 1 := (List.getElem?_eq_some_iff.mp hq).1
  rw [show i = 0 by omega] at hq
  cases hq
  exact hat
/-- a reference into an array of references (kind 13: a Board, class 0; kind 14: a Row, class 5) -/
theorem mOk.aast {a kd N j r ci N' : Nat} {i : Int32} (hd : decode M.2.1 pc = .ok (.aastore, 1)) (hk : h.1[a]? = some (kd, N)) (hkd : (kd = 13 ∧ ci = 0) ∨ (kd = 14 ∧ ci = 5)) (hkr : h.1[r]? = some (ci, N')) (hi : i = nI j) (hj : j < N) (hN : N < 2147483648) (kk : mOk M d mc ms (pc + 1) L st (mi_wR h a j r) n k Q) : mOk M d mc ms pc L (.ref r :: .int i :: .ref a :: st) h n k Q := by
  intro D base cy p l e s m args below meth c H locs ls hX hK hP hS hB hL
  subst hi
  have hat := hP.2 a _ hk
  have hatr := hP.2 r _ hkr
  have hc := nI_clamp (show j < 2 ^ 31 by omega)
  have hci : ci < 10 := by rcases hkd with ⟨-, rfl⟩ | ⟨-, rfl⟩ <;> decide
  rw [mi_cc_o hci] at hatr
  have key : ∀ (t0 : Nat) (C : String) (T : u_T) (N0 : Nat), vwCl[ci]? = some (C, T, N0) → (mi_tys cy)[t0]? = some (cy t0, .object C) → (∀ (P : Nat → Option Nat) (I : Nat → Int32) (J : Nat → Int64), mi_cc base cy P I J (kd, N) = .inl (cy t0, N, .inr (.inr (.inr (.inr (fun j => mi_o base (P j))))))) → W p l e (mi_R d mc ms) s m args below meth c H locs n k (MQ below (mi_Q D base cy Q) args s mc ms (mi_A base)) (F0 m pc ls ((Value.ref r :: .int (nI j) :: .ref a :: st).map (mi_e base))) := by
    intro t0 C T N0 hcl ht hcc
    rw [hcc] at hat
    have hat : H[base + a]? = some (vp_cell (cy t0) (N, .inr (.inr (.inr (.inr (fun j => mi_o base (h.2.1 a j))))))) := hat
    have h0 : ¬ nI j < 0 := nI_pos (show j < 2 ^ 31 by omega)
    obtain ⟨r', hr', cellV, g1, g2, g3, -⟩ := hatr
    have hcls := (hK.1.1 ci _ hcl).2
    obtain ⟨kA, comp, k1, k2, k3, -⟩ := (hK.1.2 t0 _ ht).2
    have hcomp : comp = D.1 ci := Option.some.inj (k3.symm.trans hcls.1)
    subst hcomp
    obtain ⟨kC, hkC, -⟩ := id hcls.2
    refine W.aast hX.1 hX.2.1 hat (fun q h => by cases h) (fun h => by cases h) k1 k2 rfl hkC ⟨h0, by show _ < (arrV _ _ _).slots.size; rw [arrV_size, hc]; exact hj⟩ g1 (fun q h => by rw [g3] at h; cases h) (by rw [g2]; exact hkC) (by rw [g2]; exact va_assign hcls) rfl rfl hd fun H' e1 e2 e3 => ?_
    refine kk D base cy p l e s m args below meth c H' _ ls hX hK (hP.set (a := a) rfl e2 e3 (fun b hb => ⟨va_up_n hb, rfl, rfl⟩) (fun q hq => ?_)) (hS.put e2 e3 (Nat.le_add_right _ _)) hB hL
    cases hk.symm.trans hq
    rw [hcc]
    show H'[base + a]? = some (vp_cell (cy t0) (N, .inr (.inr (.inr (.inr (fun i => mi_o base ((mi_wR h a j r).2.1 a i)))))))
    rw [e1, hc, vp_cell_q, vp_cell_q, arrV_store]
    congr 2
    funext q
    by_cases hq : q = j
    · subst hq; simp [updV, mi_wR, va_up, mi_o, va_rf, mi_e]
    · simp [updV, mi_wR, va_up, hq]
  rcases hkd with ⟨rfl, rfl⟩ | ⟨rfl, rfl⟩
  · exact key 3 RX0 TX0 2 rfl rfl (fun _ _ _ => rfl)
  · exact key 4 RX5 TX5 2 rfl rfl (fun _ _ _ => rfl)
end MH
end
section
section MC
variable {M : mi_M} {d mc ms pc n k : Nat} {L : List (Option Value)} {st : List Value} {h : mi_H} {Q : Option Value → mi_H → Prop}
/-! what is made -/
def mi_nO (h : mi_H) (ci N : Nat) : mi_H := (h.1 ++ [(ci, N)], va_up h.2.1 h.1.length (fun _ => none), va_up h.2.2.1 h.1.length (fun _ => 0), h.2.2.2)
def mi_nI (h : mi_H) (kd N : Nat) : mi_H := (h.1 ++ [(kd, N)], h.2.1, va_up h.2.2.1 h.1.length (fun _ => 0), h.2.2.2)
def mi_nJ (h : mi_H) (N : Nat) : mi_H := (h.1 ++ [(11, N)], h.2.1, h.2.2.1, va_up h.2.2.2 h.1.length (fun _ => 0))
def mi_nR (h : mi_H) (kd N : Nat) : mi_H := (h.1 ++ [(kd, N)], va_up h.2.1 h.1.length (fun _ => none), h.2.2.1, h.2.2.2)
theorem mOk.new {idx ci N : Nat} (hd : decode M.2.1 pc = .ok (.new idx, 3)) (hl : mi_cn M.1.cls idx ci N) (hr : n + 1 ≤ mc ∧ k + N ≤ ms) (kk : mOk M d mc ms (pc + 3) L (.ref h.1.length :: st) (mi_nO h ci N) (n + 1) (k + N) Q) : mOk M d mc ms pc L st h n k Q := by
  intro D base cy p l e s m args below meth c H locs ls hX hK hP hS hB hL
  obtain ⟨C, T, ty0, hci, hcl, hlk, hinst, hini, hws, hty, htf⟩ := hl
  have hts := hX.2.2.2.2.2.1
  have hKn := hK.1.1 ci _ hcl
  refine W.newcK hX.1 hX.2.1 hX.2.2.2.2.1 (hts _ hlk) (hts _ hinst) (hts _ hini) rfl hd hr.1 hr.2 hKn.2.1 rfl fun H1 kC hkC e1 z1 o1 => ?_
  have hsz := hP.1
  refine W.eq (g2 := F0 m (pc + 3) ls ((Value.ref h.1.length :: st).map (mi_e base))) (by show F0 _ _ _ (Value.ref H.size :: _) = _; rw [hsz]; rfl) ?_
  refine kk D base cy p l e s m args below meth c H1 _ ls hX hK (hP.push (q0 := (ci, N)) rfl z1 o1 (fun b hb => ⟨va_up_n hb, va_up_n hb, rfl⟩) ?_) (mi_S.push hS z1 o1) hB hL
  rw [mi_cc_o hci]
  refine ⟨_, hcl, ?_⟩
  rw [hsz] at e1
  refine (u_born ty0 hts hws hKn hkC e1 hty).to fun j hj => ?_
  show defaultValue (ty0 j) = vp_V _ j
  unfold vp_V
  rw [List.getD_eq_getElem?_getD, mi_fs_at hj]
  show _ = mi_fv base ((mi_nO h ci N).2.1 h.1.length) ((mi_nO h ci N).2.2.1 h.1.length) ci j
  have e2 : (mi_nO h ci N).2.1 h.1.length = fun _ => none := va_up_s _ _ _
  have e3 : (mi_nO h ci N).2.2.1 h.1.length = fun _ => 0 := va_up_s _ _ _
  rw [e2, e3]
  unfold mi_fv
  have := htf j hj
  cases hb : mi_rf ci j with
  | true => rw [hb] at this; rcases this with ⟨x, hx⟩ | ⟨x, hx⟩ <;> rw [hx] <;> rfl
  | false => rw [hb] at this; rw [show ty0 j = .int from this]; rfl
theorem mOk.newaI {N : Nat} {i : Int32} (hd : decode M.2.1 pc = .ok (.newarray .int, 2)) (hi : i = nI N) (hN : N < 100000) (hr : n + 1 ≤ mc ∧ k + N ≤ ms) (kk : mOk M d mc ms (pc + 2) L (.ref h.1.length :: st) (mi_nI h 10 N) (n + 1) (k + N) Q) : mOk M d mc ms pc L (.int i :: st) h n k Q := by
  intro D base cy p l e s m args below meth c H locs ls hX hK hP hS hB hL
  subst hi
  have hsz := hP.1
  refine va_newaK hX.1 hX.2.1 (atype := .int) (hX.2.2.2.2.2.1 _ gw_aint) rfl hd rfl (nI_pos (show N < 2 ^ 31 by omega)) (nI_clamp (show N < 2 ^ 31 by omega)) (by show N * 4 ≤ _; omega) hr.1 hr.2 hsz fun H1 cA e1 z1 o1 hAr hNm => ?_
  have hcA : cA = cy 0 := Option.some.inj (hNm.symm.trans (hK.1.2 0 _ rfl).2)
  subst hcA
  rw [← hsz] at z1 o1
  refine kk D base cy p l e s m args below meth c H1 _ ls hX hK (hP.push (q0 := (10, N)) rfl z1 o1 (fun b hb => ⟨rfl, va_up_n hb, rfl⟩) ?_) (mi_S.push hS z1 o1) hB hL
  show H1[base + h.1.length]? = some (vp_cell (cy 0) (N, .inl ((mi_nI h 10 N).2.2.1 h.1.length)))
  rw [e1, show (mi_nI h 10 N).2.2.1 h.1.length = fun _ => 0 from va_up_s _ _ _]
  rfl
theorem mOk.newaZ {N : Nat} {i : Int32} (hd : decode M.2.1 pc = .ok (.newarray .boolean, 2)) (hi : i = nI N) (hN : N < 100000) (hr : n + 1 ≤ mc ∧ k + N ≤ ms) (kk : mOk M d mc ms (pc + 2) L (.ref h.1.length :: st) (mi_nI h 12 N) (n + 1) (k + N) Q) : mOk M d mc ms pc L (.int i :: st) h n k Q := by
  intro D base cy p l e s m args below meth c H locs ls hX hK hP hS hB hL
  subst hi
  have hsz := hP.1
  refine va_newaK hX.1 hX.2.1 (atype := .boolean) (hX.2.2.2.2.2.1 _ gw_aboolean) rfl hd rfl (nI_pos (show N < 2 ^ 31 by omega)) (nI_clamp (show N < 2 ^ 31 by omega)) (by show N * 1 ≤ _; omega) hr.1 hr.2 hsz fun H1 cA e1 z1 o1 hAr hNm => ?_
  have hcA : cA = cy 2 := Option.some.inj (hNm.symm.trans (hK.1.2 2 _ rfl).2)
  subst hcA
  rw [← hsz] at z1 o1
  refine kk D base cy p l e s m args below meth c H1 _ ls hX hK (hP.push (q0 := (12, N)) rfl z1 o1 (fun b hb => ⟨rfl, va_up_n hb, rfl⟩) ?_) (mi_S.push hS z1 o1) hB hL
  show H1[base + h.1.length]? = some (vp_cell (cy 2) (N, .inl ((mi_nI h 12 N).2.2.1 h.1.length)))
  rw [e1, show (mi_nI h 12 N).2.2.1 h.1.length = fun _ => 0 from va_up_s _ _ _]
  rfl
theorem mOk.newaJ {N : Nat} {i : Int32} (hd : decode M.2.1 pc = .ok (.newarray .long, 2)) (hi : i = nI N) (hN : N < 100000) (hr : n + 1 ≤ mc ∧ k + N ≤ ms) (kk : mOk M d mc ms (pc + 2) L (.ref h.1.length :: st) (mi_nJ h N) (n + 1) (k + N) Q) : mOk M d mc ms pc L (.int i :: st) h n k Q := by
  intro D base cy p l e s m args below meth c H locs ls hX hK hP hS hB hL
  subst hi
  have hsz := hP.1
  refine va_newaK hX.1 hX.2.1 (atype := .long) (hX.2.2.2.2.2.1 _ gw_along) rfl hd rfl (nI_pos (show N < 2 ^ 31 by omega)) (nI_clamp (show N < 2 ^ 31 by omega)) (by show N * 8 ≤ _; omega) hr.1 hr.2 hsz fun H1 cA e1 z1 o1 hAr hNm => ?_
  have hcA : cA = cy 1 := Option.some.inj (hNm.symm.trans (hK.1.2 1 _ rfl).2)
  subst hcA
  rw [← hsz] at z1 o1
  refine kk D base cy p l e s m args below meth c H1 _ ls hX hK (hP.push (q0 := (11, N)) rfl z1 o1 (fun b hb => ⟨rfl, rfl, va_up_n hb⟩) ?_) (mi_S.push hS z1 o1) hB hL
  show H1[base + h.1.length]? = some (vp_cell (cy 1) (N, .inr (.inl ((mi_nJ h N).2.2.2 h.1.length))))
  rw [e1, show (mi_nJ h N).2.2.2 h.1.length = fun _ => 0 from va_up_s _ _ _]
  rfl
theorem mOk.newaR {kd N idx : Nat} {C : String} {i : Int32} (hd : decode M.2.1 pc = .ok (.anewarray idx, 3)) (hc : Cond.classLink M.1.cls idx C ∈ gw) (hkd : (kd = 13 ∧ C = RX0) ∨ (kd = 14 ∧ C = RX5)) (hi : i = nI N) (hN : N < 100000) (hr : n + 1 ≤ mc ∧ k + N ≤ ms) (kk : mOk M d mc ms (pc + 3) L (.ref h.1.length :: st) (mi_nR h kd N) (n + 1) (k + N) Q) : mOk M d mc ms pc L (.int i :: st) h n k Q := by
  intro D base cy p l e s m args below meth c H locs ls hX hK hP hS hB hL
  subst hi
  have hsz := hP.1
  have hcl := nI_clamp (show N < 2 ^ 31 by omega)
  have key : ∀ t0, va_AO C s → (mi_tys cy)[t0]? = some (cy t0, .object C) → (∀ (P : Nat → Option Nat) (I : Nat → Int32) (J : Nat → Int64), mi_cc base cy P I J (kd, N) = .inl (cy t0, N, .inr (.inr (.inr (.inr (fun j => mi_o base (P j))))))) → W p l e (mi_R d mc ms) s m args below meth c H locs n k (MQ below (mi_Q D base cy Q) args s mc ms (mi_A base)) (F0 m pc ls ((Value.int (nI N) :: st).map (mi_e base))) := by
    intro t0 hao ht hcc
    refine W.anew hX.1 hX.2.1 hX.2.2.2.2.1 (hX.2.2.2.2.2.1 _ hc) (va_AO.use hao) rfl hd rfl (nI_pos (show N < 2 ^ 31 by omega)) (by rw [hcl]; omega) hr.1 (by rw [hcl]; exact hr.2) fun cA kA comp f1 f2 f3 f4 => ?_
    rw [hcl]
    obtain ⟨kA', comp', r1, r2, r3, r4⟩ := (hK.1.2 t0 _ ht).2
    have hcA : cA = cy t0 := Option.some.inj (f1.symm.trans r4)
    subst hcA
    generalize hH1 : H.push ({ cls := cy t0, slots := Array.replicate N .null, vm := .none } : Cell) = H1
    have z1 : H1.size = H.size + 1 := by rw [← hH1, Array.size_push]
    have e1 : H1[H.size]? = some (arrV (cy t0) N (fun _ => .null)) := by rw [← hH1, Array.getElem?_push_size, ← arrV_new]
    have o1 : ∀ q : Nat, q < H.size → H1[q]? = H[q]? := fun q hq => by rw [← hH1, Array.getElem?_push, if_neg (Nat.ne_of_lt hq)]
    refine W.eq (g2 := F0 m (pc + 3) ls ((Value.ref h.1.length :: st).map (mi_e base))) (by show F0 _ _ _ (Value.ref H.size :: _) = _; rw [hsz]; rfl) ?_
    refine kk D base cy p l e s m args below meth c H1 _ ls hX hK (hP.push (q0 := (kd, N)) rfl z1 o1 (fun b hb => ⟨va_up_n hb, rfl, rfl⟩) ?_) (mi_S.push hS z1 o1) hB hL
    rw [hcc, show (mi_nR h kd N).2.1 h.1.length = fun _ => none from va_up_s _ _ _, ← hsz]
    exact e1
  rcases hkd with ⟨rfl, rfl⟩ | ⟨rfl, rfl⟩
  · exact key 3 hK.2.1 rfl (fun _ _ _ => rfl)
  · exact key 4 hK.2.2.1 rfl (fun _ _ _ => rfl)
/-! the end of a method -/
theorem mOk.iret {x : Int32} (hd : decode M.2.1 pc = .ok (.ireturn, 1)) (hr : M.2.2.2 = some .int) (hq : Q (some (.int x)) h) : mOk M d mc ms pc L [.int x] h mc ms Q :=
  fun D base cy p l e s m args below meth c H locs ls hX hK hP hS hB hL => W.iret (v := x) hX.1 hX.2.1 (hX.2.2.2.1.trans hr) (fun t ht hW => ⟨⟨some (.int x), h, rfl, hq, by rw [ht]; exact hP⟩, hS.F ht⟩) hS.2.2 hd hX.2.2.2.2.2.2.1
theorem mOk.zret {x : Int32} (hd : decode M.2.1 pc = .ok (.ireturn, 1)) (hr : M.2.2.2 = some .boolean) (hx : x = 0 ∨ x = 1) (hq : Q (some (.int x)) h) : mOk M d mc ms pc L [.int x] h mc ms Q :=
  fun D base cy p l e s m args below meth c H locs ls hX hK hP hS hB hL => W.zret (v := x) (ty := .boolean) hX.1 hX.2.1 (hX.2.2.2.1.trans hr) (by rcases hx with rfl | rfl <;> rfl) (fun t ht hW => ⟨⟨some (.int x), h, rfl, hq, by rw [ht]; exact hP⟩, hS.F ht⟩) hS.2.2 hd hX.2.2.2.2.2.2.1
theorem mOk.lret {x : Int64} (hd : decode M.2.1 pc = .ok (.lreturn, 1)) (hr : M.2.2.2 = some .long) (hq : Q (some (.long x)) h) : mOk M d mc ms pc L [.long x] h mc ms Q :=
  fun D base cy p l e s m args below meth c H locs ls hX hK hP hS hB hL => W.lret (v := x) hX.1 hX.2.1 (hX.2.2.2.1.trans hr) (fun t ht hW => ⟨⟨some (.long x), h, rfl, hq, by rw [ht]; exact hP⟩, hS.F ht⟩) hS.2.2 hd hX.2.2.2.2.2.2.1
theorem mOk.vret (hd : decode M.2.1 pc = .ok (.return_, 1)) (hr : M.2.2.2 = none) (hn : n ≤ mc ∧ k ≤ ms) (hq : Q none h) : mOk M d mc ms pc L [] h n k Q :=
  fun D base cy p l e s m args below meth c H locs ls hX hK hP hS hB hL => W.widen hn.1 hn.2 (W.vret hX.1 hX.2.1 (hX.2.2.2.1.trans hr) (fun t ht hW => ⟨⟨none, h, rfl, hq, by rw [ht]; exact hP⟩, hS.F ht⟩) hS.2.2 hd hX.2.2.2.2.2.2.1)
theorem mOk.aret {r : Nat} {C : String} (hd : decode M.2.1 pc = .ok (.areturn, 1)) (hr : M.2.2.2 = some (.object C)) (hq : Q (some (.ref r)) h) : mOk M d mc ms pc L [.ref r] h mc ms Q :=
  fun D base cy p l e s m args below meth c H locs ls hX hK hP hS hB hL => W.aret (v := .ref (base + r)) hX.1 hX.2.1 (hX.2.2.2.1.trans hr) (Or.inl ⟨_, rfl⟩) (Or.inr ⟨_, rfl⟩) (fun t ht hW => ⟨⟨some (.ref r), h, rfl, hq, by rw [ht]; exact hP⟩, hS.F ht⟩) hS.2.2 hd hX.2.2.2.2.2.2.1
theorem mOk.aretN {C : String} (hd : decode M.2.1 pc = .ok (.areturn, 1)) (hr : M.2.2.2 = some (.object C)) (hq : Q (some .null) h) : mOk M d mc ms pc L [.null] h mc ms Q :=
  fun D base cy p l e s m args below meth c H locs ls hX hK hP hS hB hL => W.aret (v := .null) hX.1 hX.2.1 (hX.2.2.2.1.trans hr) (Or.inl ⟨_, rfl⟩) (Or.inl rfl) (fun t ht hW => ⟨⟨some .null, h, rfl, hq, by rw [ht]; exact hP⟩, hS.F ht⟩) hS.2.2 hd hX.2.2.2.2.2.2.1
/-! calls -/
abbrev mi_k (M : mi_M) (d mc ms pc : Nat) (L : List (Option Value)) (st : List Value) (n k : Nat) (Q : Option Value → mi_H → Prop) : Option Value → mi_H → Prop := fun r h' => match r with
  | none => mOk M d mc ms pc L st h' n k Q
  | some v => mOk M d mc ms pc L (v :: st) h' n k Q
theorem mi_ret {p : Program} {l : Launch} {e : Env} {R : Room} {s : State} {m : MethodId} {args : Array Value} {below : List Frame} {meth : Method} {c : Code} {H : Heap} {locs : List Loc} {mc' ms' : Nat} {ls : Array Slot} {st0 rest : List Value} {Qf : State → Prop} {D : va_G} {base : Nat} {cy : Nat → ClassId} {Q' : Option Value → mi_H → Prop} {a : Array Value}
    (hr : va_Run p l e R s m args below meth c H locs n k mc' ms' (F0 m pc ls st0) rest (mi_Q D base cy Q' a) (mi_A base)) (hS : va_S (mi_A base) s.heap H locs)
    (kk : ∀ (r : Option Value) (h' : mi_H) (H1 : Heap) (locs1 : List Loc), Q' r h' → mi_P D base cy h' H1 → va_S (mi_A base) s.heap H1 locs1 → W p l e R s m args below meth c H1 locs1 (n + mc') (k + ms') Qf (F0 m (pc + 3) ls ((r.map (mi_e base)).toList ++ rest))) : W p l e R s m args below meth c H locs n k Qf (F0 m pc ls st0) := by
  intro T hT X
  obtain ⟨v, st₀, t, T', Lo, h0, X', hL, e1, e2, ⟨⟨r, h', hv, hq, hp⟩, hz, hk⟩, st⟩ := hr T hT X
  cases hv
  rw [h0] at hz hk
  obtain ⟨t2, a1, b1⟩ := kk r h' T'.heap (locs ++ Lo) hq (by rw [e1]; exact hp)
    ⟨Nat.le_trans hS.1 (by rw [e1]; exact hz), fun q h1 h2 => by rw [e1, hk q (Nat.lt_of_lt_of_le h1 hS.1) h2]; exact hS.2.1 q h1 h2, fun q hq => by
      rcases List.mem_append.mp hq with h | h
      · exact hS.2.2 q h
      · exact hL q h⟩ T' rfl X'
  exact ⟨t2, st t2 a1, b1⟩
theorem mi_cat {base : Nat} {vs : List Value} (hw : (vs.map fun v => v.category).sum ≤ 8) : ((vs.map (mi_e base)).map fun v => v.category).sum ≤ 8 := by
  rw [List.map_map]
  have e : ((fun v : Value => v.category) ∘ mi_e base) = fun v => v.category := by funext v; exact mi_e_cat base v
  rw [e]
  exact hw
theorem gw_in {own : String} {idx : Nat} {M' : mi_M} {ws : List Cond} (h1 : ∀ w ∈ ws, w ∈ gw) (hc : Cond.code M'.1 M'.2.1 M'.2.2.1 M'.2.2.2 ∈ gw) : GoodIn gw (ws ++ (Cond.code M'.1 M'.2.1 M'.2.2.1 M'.2.2.2 :: gw)) := by
  intro w hw
  have hm : w ∈ gw := by
    rcases List.mem_append.mp hw with h | h
    · exact h1 w h
    · rcases List.mem_cons.mp h with h | h
      · rw [h]; exact hc
      · exact h
  exact ⟨hm, gw_good w hm⟩
theorem mi_blind {D : va_G} {base : Nat} {cy : Nat → ClassId} {as : List Value} : FrameBlind (va_Pc as (fun U => base ≤ U.heap.size ∧ mi_P D base cy h U.heap ∧ mi_K D cy U)) :=
  fun a U g mk q => ⟨q.1, q.2.1, q.2.2.1, mi_K.same (s := U) rfl q.2.2.2⟩
theorem mi_len {M' : mi_M} {nA : Nat} {s : Option Nat} (h : s = some nA) : s = some nA := h
theorem mOk.callV {M' : mi_M} {d' mc' ms' idx nA ci N b : Nat} {as stk : List Value} (hd : decode M.2.1 pc = .ok (.invokevirtual idx, 3)) (hl : Cond.methodLink M.1.cls idx M'.1 ∈ gw) (hv : mi_cv M' nA ci) (hk : h.1[b]? = some (ci, N)) (hst : stk = as.reverse ++ .ref b :: st) (hn : as.length = nA) (hd1 : d' < d ∧ M'.2.2.1 ≤ 21) (hr : n + mc' ≤ mc ∧ k + ms' ≤ ms) (hw : (st.map fun v => v.category).sum ≤ 8)
    (hc : mCl M' d' mc' ms' (.ref b :: as) h (mi_k M d mc ms (pc + 3) L st (n + mc') (k + ms') Q)) : mOk M d mc ms pc L stk h n k Q := by
  intro D base cy p l e s m args below meth c H locs ls hX hK hP hS hB hL
  subst hst
  obtain ⟨⟨hcd, hini, hy1, hy2, hpl⟩, hin, hse, T, N', hcl⟩ := hv
  have hts := hX.2.2.2.2.2.1
  have hci : ci < 10 := (List.getElem?_eq_some_iff.mp hcl).1
  have hat := hP.2 b _ hk
  rw [mi_cc_o hci] at hat
  have hrun := va_runV (p := p) (l := l) (e := e) (R := mi_R d mc ms) (s := s) (m := m) (args := args) (below := below) (meth := meth) (c := c) (H := H) (locs := locs) (cells := n) (slots := k) (As := as.map (mi_e base)) (rest := st.map (mi_e base)) (b := base + b) (g := F0 m pc ls ((as.reverse ++ .ref b :: st).map (mi_e base))) (Ts := gw) (own := M.1.cls) (index := idx) ⟨hX.1, hX.2.1, hX.2.2.1, hX.2.2.2.2.1, hts⟩ (hc D base cy l) (cwV (C := M'.1.cls) nA hts (gw_in (own := M.1.cls) (idx := idx) (by
      intro w hw
      simp only [List.mem_cons, List.not_mem_nil, or_false] at hw
      rcases hw with rfl | rfl | rfl | rfl
      · exact hl
      · exact hin
      · exact hse
      · exact hini) hcd) rfl rfl rfl ⟨rfl, hy1, hy2, hpl⟩ ⟨hd1.1, by show 8 + (M'.2.2.1 + 11) + 40 * d' ≤ 40 * d; omega⟩) ⟨mi_blind, by
      have hP1 : va_P D vwCl [(base + b, .inr (ci, (List.range N).map (mi_fv base (h.2.1 b) (h.2.2.1 b) ci)))] H := fun j q hj => by
        have hz : j < 1 := (List.getElem?_eq_some_iff.mp hj).1
        rw [show j = 0 by omega] at hj
        cases hj
        exact hat
      exact va_recv hK.1 hP1 (q0 := 0) hcl rfl, fun U hU hW => ⟨by rfl, Nat.le_trans hB (by rw [hU]; exact hS.1), by rw [hU]; exact hP, hK.warm hW⟩⟩ rfl (by rw [List.length_map]; exact hn) hL.1 (by simp [mi_e]) (lv_room (mi_cat hw)) hd hr
  refine mi_ret hrun hS fun r h' H1 locs1 hq hp hs => ?_
  cases r with
  | none => exact hq D base cy p l e s m args below meth c H1 locs1 ls hX hK hp hs hB hL
  | some v => exact hq D base cy p l e s m args below meth c H1 locs1 ls hX hK hp hs hB hL
theorem mOk.callS {M' : mi_M} {d' mc' ms' idx nA : Nat} {as stk : List Value} (hd : decode M.2.1 pc = .ok (.invokestatic idx, 3)) (hl : Cond.methodLink M.1.cls idx M'.1 ∈ gw) (hv : mi_cs M' nA) (ho : M'.1.cls = M.1.cls) (hst : stk = as.reverse ++ st) (hn : as.length = nA) (hd1 : d' < d ∧ M'.2.2.1 ≤ 21) (hr : n + mc' ≤ mc ∧ k + ms' ≤ ms) (hw : (st.map fun v => v.category).sum ≤ 8)
    (hc : mCl M' d' mc' ms' as h (mi_k M d mc ms (pc + 3) L st (n + mc') (k + ms') Q)) : mOk M d mc ms pc L stk h n k Q := by
  intro D base cy p l e s m args below meth c H locs ls hX hK hP hS hB hL
  subst hst
  obtain ⟨⟨hcd, hini, hy1, hy2, hpl⟩, hsta⟩ := hv
  have hts := hX.2.2.2.2.2.1
  have hrun := va_runS (p := p) (l := l) (e := e) (R := mi_R d mc ms) (s := s) (m := m) (args := args) (below := below) (meth := meth) (c := c) (H := H) (locs := locs) (cells := n) (slots := k) (As := as.map (mi_e base)) (rest := st.map (mi_e base)) (g := F0 m pc ls ((as.reverse ++ st).map (mi_e base))) (Ts := gw) (own := M.1.cls) (index := idx) ⟨hX.1, hX.2.1, hX.2.2.1, hX.2.2.2.2.1, hts⟩ (hc D base cy l) (cwS nA hts (gw_in (own := M.1.cls) (idx := idx) (by
      intro w hw
      simp only [List.mem_cons, List.not_mem_nil, or_false] at hw
      rcases hw with rfl | rfl | rfl
      · exact hl
      · exact hsta
      · rw [← ho]; exact hini) hcd) rfl rfl rfl ⟨ho, hy1, hy2, hpl⟩ ⟨hd1.1, by show 8 + (M'.2.2.1 + 11) + 40 * d' ≤ 40 * d; omega⟩) ⟨mi_blind, fun U hU hW => ⟨by rfl, Nat.le_trans hB (by rw [hU]; exact hS.1), by rw [hU]; exact hP, hK.warm hW⟩⟩ rfl (by rw [List.length_map]; exact hn) hL.1 (by simp) (lv_room (mi_cat hw)) hd hr
  refine mi_ret hrun hS fun r h' H1 locs1 hq hp hs => ?_
  cases r with
  | none => exact hq D base cy p l e s m args below meth c H1 locs1 ls hX hK hp hs hB hL
  | some v => exact hq D base cy p l e s m args below meth c H1 locs1 ls hX hK hp hs hB hL
theorem mOk.callI {M' : mi_M} {d' mc' ms' idx nA b : Nat} {as stk : List Value} (hd : decode M.2.1 pc = .ok (.invokespecial idx, 3)) (hl : Cond.methodLink M.1.cls idx M'.1 ∈ gw) (hv : mi_ci M' nA) (hrt : M'.2.2.2 = none) (hst : stk = as.reverse ++ .ref b :: st) (hn : as.length = nA) (hd1 : d' < d ∧ M'.2.2.1 ≤ 21) (hr : n + mc' ≤ mc ∧ k + ms' ≤ ms) (hw : (st.map fun v => v.category).sum ≤ 8)
    (hc : mCl M' d' mc' ms' (.ref b :: as) h (mi_k M d mc ms (pc + 3) L st (n + mc') (k + ms') Q)) : mOk M d mc ms pc L stk h n k Q := by
  intro D base cy p l e s m args below meth c H locs ls hX hK hP hS hB hL
  subst hst
  obtain ⟨⟨hcd, hini, hy1, hy2, hpl⟩, hin, hnm⟩ := hv
  have hts := hX.2.2.2.2.2.1
  have hg : GoodIn gw (Cond.code M'.1 M'.2.1 M'.2.2.1 none :: gw) := by
    have := gw_in (own := M.1.cls) (idx := idx) (M' := M') (ws := []) (fun w hw => absurd hw List.not_mem_nil) hcd
    rw [hrt] at this
    exact this
  have hm := hc D base cy l
  rw [hrt] at hm
  have hrun := va_runI (p := p) (l := l) (e := e) (R := mi_R d mc ms) (s := s) (m := m) (args := args) (below := below) (meth := meth) (c := c) (H := H) (locs := locs) (cells := n) (slots := k) (As := as.map (mi_e base)) (rest := st.map (mi_e base)) (b := base + b) (g := F0 m pc ls ((as.reverse ++ .ref b :: st).map (mi_e base))) (Ts := gw) (own := M.1.cls) (index := idx) ⟨hX.1, hX.2.1, hX.2.2.1, hX.2.2.2.2.1, hts⟩ hm (cwI nA hts hg rfl rfl rfl (hts _ hini) (hts _ hl) (hts _ hin) hnm ⟨hy1, hy2, hpl⟩ ⟨hd1.1, by show 8 + (M'.2.2.1 + 11) + 40 * d' ≤ 40 * d; omega⟩) ⟨mi_blind, fun U hU hW => ⟨by rfl, Nat.le_trans hB (by rw [hU]; exact hS.1), by rw [hU]; exact hP, hK.warm hW⟩⟩ rfl (by rw [List.length_map]; exact hn) hL.1 (by simp [mi_e]) (lv_room (mi_cat hw)) hd hr
  refine mi_ret hrun hS fun r h' H1 locs1 hq hp hs => ?_
  cases r with
  | none => exact hq D base cy p l e s m args below meth c H1 locs1 ls hX hK hp hs hB hL
  | some v => exact hq D base cy p l e s m args below meth c H1 locs1 ls hX hK hp hs hB hL
/-- a private constructor of a nest mate -/
theorem mOk.callIN {M' : mi_M} {d' mc' ms' idx nA b : Nat} {host : String} {as stk : List Value} (hd : decode M.2.1 pc = .ok (.invokespecial idx, 3)) (hl : Cond.methodLinkNest M.1.cls idx M'.1 host ∈ mi_nest) (hv : mi_ci M' nA) (hrt : M'.2.2.2 = none) (hst : stk = as.reverse ++ .ref b :: st) (hn : as.length = nA) (hd1 : d' < d ∧ M'.2.2.1 ≤ 21) (hr : n + mc' ≤ mc ∧ k + ms' ≤ ms) (hw : (st.map fun v => v.category).sum ≤ 8)
    (hc : mCl M' d' mc' ms' (.ref b :: as) h (mi_k M d mc ms (pc + 3) L st (n + mc') (k + ms') Q)) : mOk M d mc ms pc L stk h n k Q := by
  intro D base cy p l e s m args below meth c H locs ls hX hK hP hS hB hL
  subst hst
  obtain ⟨⟨hcd, hini, hy1, hy2, hpl⟩, hin, hnm⟩ := hv
  have hts := hX.2.2.2.2.2.1
  have hg : GoodIn gw (Cond.code M'.1 M'.2.1 M'.2.2.1 none :: gw) := by
    have := gw_in (own := M.1.cls) (idx := idx) (M' := M') (ws := []) (fun w hw => absurd hw List.not_mem_nil) hcd
    rw [hrt] at this
    exact this
  have hm := hc D base cy l
  rw [hrt] at hm
  have hrun := va_runIN (p := p) (l := l) (e := e) (R := mi_R d mc ms) (s := s) (m := m) (args := args) (below := below) (meth := meth) (c := c) (H := H) (locs := locs) (cells := n) (slots := k) (As := as.map (mi_e base)) (rest := st.map (mi_e base)) (b := base + b) (g := F0 m pc ls ((as.reverse ++ .ref b :: st).map (mi_e base))) (Ts := gw) (own := M.1.cls) (host := host) (index := idx) ⟨hX.1, hX.2.1, hX.2.2.1, hX.2.2.2.2.1, hts⟩ hm ⟨va_cnB nA hts hg rfl rfl rfl (hK.2.2.2 _ hl) (hts _ hini) ⟨hy1, hy2, hpl⟩ ⟨hd1.1, by show 8 + (M'.2.2.1 + 11) + 40 * d' ≤ 40 * d; omega⟩, hnm, hts _ hin⟩ ⟨mi_blind, fun U hU hW => ⟨by rfl, Nat.le_trans hB (by rw [hU]; exact hS.1), by rw [hU]; exact hP, hK.warm hW⟩⟩ rfl (by rw [List.length_map]; exact hn) hL.1 (by simp [mi_e]) (lv_room (mi_cat hw)) hd hr
  refine mi_ret hrun hS fun r h' H1 locs1 hq hp hs => ?_
  cases r with
  | none => exact hq D base cy p l e s m args below meth c H1 locs1 ls hX hK hp hs hB hL
  | some v => exact hq D base cy p l e s m args below meth c H1 locs1 ls hX hK hp hs hB hL
theorem mOk.objI {idx a : Nat} (hd : decode M.2.1 pc = .ok (.invokespecial idx, 3)) (hl : Cond.methodLink M.1.cls idx objectInit ∈ gw) (hd1 : 0 < d) (hw : (st.map fun v => v.category).sum ≤ 8) (kk : mOk M d mc ms (pc + 3) L st h n k Q) : mOk M d mc ms pc L (.ref a :: st) h n k Q := by
  intro D base cy p l e s m args below meth c H locs ls hX hK hP hS hB hL
  have hts := hX.2.2.2.2.2.1
  refine W.objInit hX.1 hX.2.1 hX.2.2.2.2.1 (hts _ hl) (hts _ gw_oi) (hts _ gw_oc) rfl (by rw [hX.2.2.1]; exact hL.1) rfl hd hd1 ?_ (kk D base cy p l e s m args below meth c H locs ls hX hK hP hS hB hL)
  have := lv_room (m := m) (pc := pc) (ls := ls) (rest := (Value.ref a :: st).map (mi_e base)) (mi_cat (base := base) hw)
  show 2 * 0 + _ + 12 ≤ 40 * d
  have h2 := mi_cat (base := base) hw
  omega
theorem mOk.mmax {idx : Nat} {x y : Int32} (hd : decode M.2.1 pc = .ok (.invokestatic idx, 3)) (hl : Cond.methodLink M.1.cls idx Lib.Math.max.name ∈ gw) (hd1 : 0 < d) (hn : n ≤ mc ∧ k ≤ ms) (hw : (st.map fun v => v.category).sum ≤ 8) (kk : mOk M d mc ms (pc + 3) L (.int (if x < y then y else x) :: st) h n k Q) : mOk M d mc ms pc L (.int y :: .int x :: st) h n k Q := by
  intro D base cy p l e s m args below meth c H locs ls hX hK hP hS hB hL
  have hts := hX.2.2.2.2.2.1
  have h2 := mi_cat (base := base) hw
  exact va_mmax (R := mi_R d mc ms) hX.1 hX.2.1 (by rw [hX.2.2.1, hL.1]) hX.2.2.2.2.1 (hts _ hl) (hts _ gw_maxs) (hts _ gw_mi) (hts _ gw_maxc) hd1 (by show _ ≤ 40 * d; omega) hn.1 hn.2 hd (kk D base cy p l e s m args below meth c H locs ls hX hK hP hS hB hL)
theorem mOk.mmin {idx : Nat} {x y : Int32} (hd : decode M.2.1 pc = .ok (.invokestatic idx, 3)) (hl : Cond.methodLink M.1.cls idx Lib.Math.min.name ∈ gw) (hd1 : 0 < d) (hn : n ≤ mc ∧ k ≤ ms) (hw : (st.map fun v => v.category).sum ≤ 8) (kk : mOk M d mc ms (pc + 3) L (.int (if y < x then y else x) :: st) h n k Q) : mOk M d mc ms pc L (.int y :: .int x :: st) h n k Q := by
  intro D base cy p l e s m args below meth c H locs ls hX hK hP hS hB hL
  have hts := hX.2.2.2.2.2.1
  have h2 := mi_cat (base := base) hw
  exact va_mmin (R := mi_R d mc ms) hX.1 hX.2.1 (by rw [hX.2.2.1, hL.1]) hX.2.2.2.2.1 (hts _ hl) (hts _ gw_mins) (hts _ gw_mi) (hts _ gw_minc) hd1 (by show _ ≤ 40 * d; omega) hn.1 hn.2 hd (kk D base cy p l e s m args below meth c H locs ls hX hK hP hS hB hL)
theorem mOk.mminl {idx : Nat} {x y : Int64} (hd : decode M.2.1 pc = .ok (.invokestatic idx, 3)) (hl : Cond.methodLink M.1.cls idx Lib.MathLoose.min_long.x ∈ gw) (hd1 : 0 < d) (hn : n ≤ mc ∧ k ≤ ms) (hw : (st.map fun v => v.category).sum ≤ 8) (kk : mOk M d mc ms (pc + 3) L (.long (if y < x then y else x) :: st) h n k Q) : mOk M d mc ms pc L (.long y :: .long x :: st) h n k Q := by
  intro D base cy p l e s m args below meth c H locs ls hX hK hP hS hB hL
  have hts := hX.2.2.2.2.2.1
  have h2 := mi_cat (base := base) hw
  exact va_mmin_long (R := mi_R d mc ms) hX.1 hX.2.1 (by rw [hX.2.2.1, hL.1]) hX.2.2.2.2.1 (hts _ hl) (hts _ gw_minls) (hts _ gw_mi) (hts _ gw_minlc) hd1 (by show _ ≤ 40 * d; omega) hn.1 hn.2 hd (kk D base cy p l e s m args below meth c H locs ls hX hK hP hS hB hL)
end MC
end
section
section ME
variable {M : mi_M} {d mc ms pc n k : Nat} {L : List (Option Value)} {st : List Value} {h : mi_H} {Q : Option Value → mi_H → Prop}
theorem mOk.callV0 {M' : mi_M} {d' mc' ms' idx ci N b : Nat}  (hd : decode M.2.1 pc = .ok (.invokevirtual idx, 3)) (hl : Cond.methodLink M.1.cls idx M'.1 ∈ gw) (hv : mi_cv M' 0 ci) (hk : h.1[b]? = some (ci, N)) (hd1 : d' < d ∧ M'.2.2.1 ≤ 21) (hr : n + mc' ≤ mc ∧ k + ms' ≤ ms) (hw : (st.map fun v => v.category).sum ≤ 8) (hc : mCl M' d' mc' ms' [.ref b] h (mi_k M d mc ms (pc + 3) L st (n + mc') (k + ms') Q)) : mOk M d mc ms pc L (.ref b :: st) h n k Q := mOk.callV (as := []) hd hl hv hk rfl rfl hd1 hr hw hc
theorem mOk.callV1 {M' : mi_M} {d' mc' ms' idx ci N b : Nat} {x1 : Value} (hd : decode M.2.1 pc = .ok (.invokevirtual idx, 3)) (hl : Cond.methodLink M.1.cls idx M'.1 ∈ gw) (hv : mi_cv M' 1 ci) (hk : h.1[b]? = some (ci, N)) (hd1 : d' < d ∧ M'.2.2.1 ≤ 21) (hr : n + mc' ≤ mc ∧ k + ms' ≤ ms) (hw : (st.map fun v => v.category).sum ≤ 8) (hc : mCl M' d' mc' ms' [.ref b, x1] h (mi_k M d mc ms (pc + 3) L st (n + mc') (k + ms') Q)) : mOk M d mc ms pc L (x1 :: .ref b :: st) h n k Q := mOk.callV (as := [x1]) hd hl hv hk rfl rfl hd1 hr hw hc
theorem mOk.callV2 {M' : mi_M} {d' mc' ms' idx ci N b : Nat} {x1 x2 : Value} (hd : decode M.2.1 pc = .ok (.invokevirtual idx, 3)) (hl : Cond.methodLink M.1.cls idx M'.1 ∈ gw) (hv : mi_cv M' 2 ci) (hk : h.1[b]? = some (ci, N)) (hd1 : d' < d ∧ M'.2.2.1 ≤ 21) (hr : n + mc' ≤ mc ∧ k + ms' ≤ ms) (hw : (st.map fun v => v.category).sum ≤ 8) (hc : mCl M' d' mc' ms' [.ref b, x1, x2] h (mi_k M d mc ms (pc + 3) L st (n + mc') (k + ms') Q)) : mOk M d mc ms pc L (x2 :: x1 :: .ref b :: st) h n k Q := mOk.callV (as := [x1, x2]) hd hl hv hk rfl rfl hd1 hr hw hc
theorem mOk.callV3 {M' : mi_M} {d' mc' ms' idx ci N b : Nat} {x1 x2 x3 : Value} (hd : decode M.2.1 pc = .ok (.invokevirtual idx, 3)) (hl : Cond.methodLink M.1.cls idx M'.1 ∈ gw) (hv : mi_cv M' 3 ci) (hk : h.1[b]? = some (ci, N)) (hd1 : d' < d ∧ M'.2.2.1 ≤ 21) (hr : n + mc' ≤ mc ∧ k + ms' ≤ ms) (hw : (st.map fun v => v.category).sum ≤ 8) (hc : mCl M' d' mc' ms' [.ref b, x1, x2, x3] h (mi_k M d mc ms (pc + 3) L st (n + mc') (k + ms') Q)) : mOk M d mc ms pc L (x3 :: x2 :: x1 :: .ref b :: st) h n k Q := mOk.callV (as := [x1, x2, x3]) hd hl hv hk rfl rfl hd1 hr hw hc
theorem mOk.callV4 {M' : mi_M} {d' mc' ms' idx ci N b : Nat} {x1 x2 x3 x4 : Value} (hd : decode M.2.1 pc = .ok (.invokevirtual idx, 3)) (hl : Cond.methodLink M.1.cls idx M'.1 ∈ gw) (hv : mi_cv M' 4 ci) (hk : h.1[b]? = some (ci, N)) (hd1 : d' < d ∧ M'.2.2.1 ≤ 21) (hr : n + mc' ≤ mc ∧ k + ms' ≤ ms) (hw : (st.map fun v => v.category).sum ≤ 8) (hc : mCl M' d' mc' ms' [.ref b, x1, x2, x3, x4] h (mi_k M d mc ms (pc + 3) L st (n + mc') (k + ms') Q)) : mOk M d mc ms pc L (x4 :: x3 :: x2 :: x1 :: .ref b :: st) h n k Q := mOk.callV (as := [x1, x2, x3, x4]) hd hl hv hk rfl rfl hd1 hr hw hc
theorem mOk.callS1 {M' : mi_M} {d' mc' ms' idx : Nat} {x1 : Value} (hd : decode M.2.1 pc = .ok (.invokestatic idx, 3)) (hl : Cond.methodLink M.1.cls idx M'.1 ∈ gw) (hv : mi_cs M' 1) (ho : M'.1.cls = M.1.cls) (hd1 : d' < d ∧ M'.2.2.1 ≤ 21) (hr : n + mc' ≤ mc ∧ k + ms' ≤ ms) (hw : (st.map fun v => v.category).sum ≤ 8) (hc : mCl M' d' mc' ms' [x1] h (mi_k M d mc ms (pc + 3) L st (n + mc') (k + ms') Q)) : mOk M d mc ms pc L (x1 :: st) h n k Q := mOk.callS (as := [x1]) hd hl hv ho rfl rfl hd1 hr hw hc
theorem mOk.callS2 {M' : mi_M} {d' mc' ms' idx : Nat} {x1 x2 : Value} (hd : decode M.2.1 pc = .ok (.invokestatic idx, 3)) (hl : Cond.methodLink M.1.cls idx M'.1 ∈ gw) (hv : mi_cs M' 2) (ho : M'.1.cls = M.1.cls) (hd1 : d' < d ∧ M'.2.2.1 ≤ 21) (hr : n + mc' ≤ mc ∧ k + ms' ≤ ms) (hw : (st.map fun v => v.category).sum ≤ 8) (hc : mCl M' d' mc' ms' [x1, x2] h (mi_k M d mc ms (pc + 3) L st (n + mc') (k + ms') Q)) : mOk M d mc ms pc L (x2 :: x1 :: st) h n k Q := mOk.callS (as := [x1, x2]) hd hl hv ho rfl rfl hd1 hr hw hc
theorem mOk.callS3 {M' : mi_M} {d' mc' ms' idx : Nat} {x1 x2 x3 : Value} (hd : decode M.2.1 pc = .ok (.invokestatic idx, 3)) (hl : Cond.methodLink M.1.cls idx M'.1 ∈ gw) (hv : mi_cs M' 3) (ho : M'.1.cls = M.1.cls) (hd1 : d' < d ∧ M'.2.2.1 ≤ 21) (hr : n + mc' ≤ mc ∧ k + ms' ≤ ms) (hw : (st.map fun v => v.category).sum ≤ 8) (hc : mCl M' d' mc' ms' [x1, x2, x3] h (mi_k M d mc ms (pc + 3) L st (n + mc') (k + ms') Q)) : mOk M d mc ms pc L (x3 :: x2 :: x1 :: st) h n k Q := mOk.callS (as := [x1, x2, x3]) hd hl hv ho rfl rfl hd1 hr hw hc
theorem mOk.callI0 {M' : mi_M} {d' mc' ms' idx b : Nat}  (hd : decode M.2.1 pc = .ok (.invokespecial idx, 3)) (hl : Cond.methodLink M.1.cls idx M'.1 ∈ gw) (hv : mi_ci M' 0) (hrt : M'.2.2.2 = none) (hd1 : d' < d ∧ M'.2.2.1 ≤ 21) (hr : n + mc' ≤ mc ∧ k + ms' ≤ ms) (hw : (st.map fun v => v.category).sum ≤ 8) (hc : mCl M' d' mc' ms' [.ref b] h (mi_k M d mc ms (pc + 3) L st (n + mc') (k + ms') Q)) : mOk M d mc ms pc L (.ref b :: st) h n k Q := mOk.callI (as := []) hd hl hv hrt rfl rfl hd1 hr hw hc
theorem mOk.callIN0 {M' : mi_M} {d' mc' ms' idx b : Nat} {host : String}  (hd : decode M.2.1 pc = .ok (.invokespecial idx, 3)) (hl : Cond.methodLinkNest M.1.cls idx M'.1 host ∈ mi_nest) (hv : mi_ci M' 0) (hrt : M'.2.2.2 = none) (hd1 : d' < d ∧ M'.2.2.1 ≤ 21) (hr : n + mc' ≤ mc ∧ k + ms' ≤ ms) (hw : (st.map fun v => v.category).sum ≤ 8) (hc : mCl M' d' mc' ms' [.ref b] h (mi_k M d mc ms (pc + 3) L st (n + mc') (k + ms') Q)) : mOk M d mc ms pc L (.ref b :: st) h n k Q := mOk.callIN (as := []) hd hl hv hrt rfl rfl hd1 hr hw hc
theorem mOk.callI1 {M' : mi_M} {d' mc' ms' idx b : Nat} {x1 : Value} (hd : decode M.2.1 pc = .ok (.invokespecial idx, 3)) (hl : Cond.methodLink M.1.cls idx M'.1 ∈ gw) (hv : mi_ci M' 1) (hrt : M'.2.2.2 = none) (hd1 : d' < d ∧ M'.2.2.1 ≤ 21) (hr : n + mc' ≤ mc ∧ k + ms' ≤ ms) (hw : (st.map fun v => v.category).sum ≤ 8) (hc : mCl M' d' mc' ms' [.ref b, x1] h (mi_k M d mc ms (pc + 3) L st (n + mc') (k + ms') Q)) : mOk M d mc ms pc L (x1 :: .ref b :: st) h n k Q := mOk.callI (as := [x1]) hd hl hv hrt rfl rfl hd1 hr hw hc
theorem mOk.callIN1 {M' : mi_M} {d' mc' ms' idx b : Nat} {host : String} {x1 : Value} (hd : decode M.2.1 pc = .ok (.invokespecial idx, 3)) (hl : Cond.methodLinkNest M.1.cls idx M'.1 host ∈ mi_nest) (hv : mi_ci M' 1) (hrt : M'.2.2.2 = none) (hd1 : d' < d ∧ M'.2.2.1 ≤ 21) (hr : n + mc' ≤ mc ∧ k + ms' ≤ ms) (hw : (st.map fun v => v.category).sum ≤ 8) (hc : mCl M' d' mc' ms' [.ref b, x1] h (mi_k M d mc ms (pc + 3) L st (n + mc') (k + ms') Q)) : mOk M d mc ms pc L (x1 :: .ref b :: st) h n k Q := mOk.callIN (as := [x1]) hd hl hv hrt rfl rfl hd1 hr hw hc
def wI (I : Nat → Nat → Int32) (a i : Nat) (x : Int32) : Nat → Nat → Int32 := va_up I a (va_up (I a) i x)
def wJ (J : Nat → Nat → Int64) (a i : Nat) (x : Int64) : Nat → Nat → Int64 := va_up J a (va_up (J a) i x)
theorem wI_s (I : Nat → Nat → Int32) (a i : Nat) (x : Int32) : wI I a i x a i = x := by simp [wI, va_up]
theorem wI_c {I : Nat → Nat → Int32} {a b i : Nat} {x : Int32} (h : b ≠ a) : wI I a i x b = I b := by simp [wI, va_up, h]
theorem wI_j {I : Nat → Nat → Int32} {a b i j : Nat} {x : Int32} (h : j ≠ i) : wI I a i x b j = I b j := by
  unfold wI va_up
  by_cases e : b = a
  · rw [if_pos e, if_neg h, e]
  · rw [if_neg e]
theorem wI_o {I : Nat → Nat → Int32} {a b i j : Nat} {x : Int32} (h : ¬ (b = a ∧ j = i)) : wI I a i x b j = I b j := by
  by_cases e : b = a
  · exact wI_j (fun z => h ⟨e, z⟩)
  · rw [wI_c e]
theorem wJ_s (J : Nat → Nat → Int64) (a i : Nat) (x : Int64) : wJ J a i x a i = x := by simp [wJ, va_up]
theorem wJ_c {J : Nat → Nat → Int64} {a b i : Nat} {x : Int64} (h : b ≠ a) : wJ J a i x b = J b := by simp [wJ, va_up, h]
theorem wJ_j {J : Nat → Nat → Int64} {a b i j : Nat} {x : Int64} (h : j ≠ i) : wJ J a i x b j = J b j := by
  unfold wJ va_up
  by_cases e : b = a
  · rw [if_pos e, if_neg h, e]
  · rw [if_neg e]
theorem mOk.getIv {idx ci N f a : Nat} {fin : Bool} {x : Int32} (hd : decode M.2.1 pc = .ok (.getfield idx, 3)) (hl : mi_fl M.1.cls idx ci N f fin false) (hk : h.1[a]? = some (ci, N)) (hv : h.2.2.1 a f = x) (kk : mOk M d mc ms (pc + 3) L (.int x :: st) h n k Q) : mOk M d mc ms pc L (.ref a :: st) h n k Q := mOk.getI hd hl hk (hv ▸ kk)
theorem mOk.ialdv {a N j : Nat} {i x : Int32} (hd : decode M.2.1 pc = .ok (.iaload, 1)) (hk : h.1[a]? = some (10, N)) (hi : i = nI j) (hj : j < N) (hN : N < 2147483648) (hv : h.2.2.1 a j = x) (kk : mOk M d mc ms (pc + 1) L (.int x :: st) h n k Q) : mOk M d mc ms pc L (.int i :: .ref a :: st) h n k Q := mOk.iald hd hk hi hj hN (hv ▸ kk)
theorem mOk.zaldv {a N j : Nat} {i x : Int32} (hd : decode M.2.1 pc = .ok (.baload, 1)) (hk : h.1[a]? = some (12, N)) (hi : i = nI j) (hj : j < N) (hN : N < 2147483648) (hv : h.2.2.1 a j = x) (kk : mOk M d mc ms (pc + 1) L (.int x :: st) h n k Q) : mOk M d mc ms pc L (.int i :: .ref a :: st) h n k Q := mOk.zald hd hk hi hj hN (hv ▸ kk)
theorem mOk.laldv {a N j : Nat} {i : Int32} {x : Int64} (hd : decode M.2.1 pc = .ok (.laload, 1)) (hk : h.1[a]? = some (11, N)) (hi : i = nI j) (hj : j < N) (hN : N < 2147483648) (hv : h.2.2.2 a j = x) (kk : mOk M d mc ms (pc + 1) L (.long x :: st) h n k Q) : mOk M d mc ms pc L (.int i :: .ref a :: st) h n k Q := mOk.lald hd hk hi hj hN (hv ▸ kk)
variable {K : List (Nat × Nat)} {P : Nat → Nat → Option Nat} {I : Nat → Nat → Int32} {J : Nat → Nat → Int64}
theorem mOk.putIt {idx ci N f a : Nat} {x : Int32} (hd : decode M.2.1 pc = .ok (.putfield idx, 3)) (hl : mi_fl M.1.cls idx ci N f false false) (hk : K[a]? = some (ci, N)) (kk : mOk M d mc ms (pc + 3) L st (K, P, wI I a f x, J) n k Q) : mOk M d mc ms pc L (.int x :: .ref a :: st) (K, P, I, J) n k Q := mOk.putI (h := (K, P, I, J)) hd hl hk kk
theorem mOk.iastt {a N j : Nat} {i x : Int32} (hd : decode M.2.1 pc = .ok (.iastore, 1)) (hk : K[a]? = some (10, N)) (hi : i = nI j) (hj : j < N) (hN : N < 2147483648) (kk : mOk M d mc ms (pc + 1) L st (K, P, wI I a j x, J) n k Q) : mOk M d mc ms pc L (.int x :: .int i :: .ref a :: st) (K, P, I, J) n k Q := mOk.iast (h := (K, P, I, J)) hd hk hi hj hN kk
theorem mOk.zastt {a N j : Nat} {i x : Int32} (hd : decode M.2.1 pc = .ok (.bastore, 1)) (hk : K[a]? = some (12, N)) (hi : i = nI j) (hj : j < N) (hN : N < 2147483648) (hx : x = 0 ∨ x = 1) (kk : mOk M d mc ms (pc + 1) L st (K, P, wI I a j x, J) n k Q) : mOk M d mc ms pc L (.int x :: .int i :: .ref a :: st) (K, P, I, J) n k Q := mOk.zast (h := (K, P, I, J)) hd hk hi hj hN hx kk
theorem mOk.lastt {a N j : Nat} {i : Int32} {x : Int64} (hd : decode M.2.1 pc = .ok (.lastore, 1)) (hk : K[a]? = some (11, N)) (hi : i = nI j) (hj : j < N) (hN : N < 2147483648) (kk : mOk M d mc ms (pc + 1) L st (K, P, I, wJ J a j x) n k Q) : mOk M d mc ms pc L (.long x :: .int i :: .ref a :: st) (K, P, I, J) n k Q := mOk.last (h := (K, P, I, J)) hd hk hi hj hN kk
theorem mOk.inc1 {x : Int32} {j : Nat} (e : x = nI j) : x + Int32.ofInt 1 = nI (j + 1) := by rw [e]; exact nI_1 j

end ME
theorem cl_an_X0_9 : Cond.classLink RX0 9 RX5 ∈ gw := by
  obtain ⟨C, T, ty0, -, h1, h2, -⟩ := cn_X0_9
  cases h1
  exact h2
theorem cl_an_X2_9 : Cond.classLink RX2 9 RX5 ∈ gw := by
  obtain ⟨C, T, ty0, -, h1, h2, -⟩ := cn_X2_9
  cases h1
  exact h2
theorem cl_an_X3_9 : Cond.classLink RX3 9 RX0 ∈ gw := by
  obtain ⟨C, T, ty0, -, h1, h2, -⟩ := cn_X3_9
  cases h1
  exact h2
/-- the cells of the class's object and of the reference, as their constructors make them: kinds and sizes -/
def KK : List (Nat × Nat) := [(8, 11), (4, 9), (5, 2), (10, 150), (1, 8), (10, 24), (10, 24), (10, 24), (10, 24), (10, 24), (10, 96), (5, 2), (10, 7), (1, 8), (10, 24), (10, 24), (10, 24), (10, 24), (10, 24), (10, 96), (5, 2), (10, 7), (0, 2), (14, 4), (5, 2), (10, 4), (5, 2), (10, 16), (5, 2), (10, 16), (5, 2), (10, 16), (5, 2), (10, 16), (3, 2), (13, 2), (12, 2), (0, 2), (14, 4), (5, 2), (10, 4), (5, 2), (10, 16), (5, 2), (10, 16), (5, 2), (10, 16), (5, 2), (10, 16), (0, 2), (14, 4), (5, 2), (10, 4), (5, 2), (10, 16), (5, 2), (10, 16), (5, 2), (10, 16), (5, 2), (10, 16), (2, 4), (14, 10), (10, 10), (5, 2), (10, 16), (5, 2), (10, 16), (5, 2), (10, 16), (5, 2), (10, 16), (5, 2), (10, 16), (5, 2), (10, 16), (5, 2), (10, 16), (5, 2), (10, 16), (5, 2), (10, 16), (5, 2), (10, 16), (6, 2), (5, 2), (10, 32), (5, 2), (10, 128), (7, 1), (11, 129), (5, 2), (10, 128), (5, 2), (10, 128), (5, 2), (10, 128), (9, 26), (10, 24), (10, 24), (10, 24), (10, 24), (10, 24), (10, 96), (10, 150), (10, 193), (10, 4), (10, 64), (10, 4), (10, 180), (10, 128), (10, 128), (10, 128), (11, 65), (10, 148)]
def PT : List (List (Option Nat)) := [[some 1, some 4, some 13, some 22, some 34, some 61, some 84, some 89, some 91, some 93, some 95], [some 2], [some 3], [], [some 5, some 6, some 7, some 8, some 9, some 10, some 11], [], [], [], [], [], [], [some 12], [], [some 14, some 15, some 16, some 17, some 18, some 19, some 20], [], [], [], [], [], [], [some 21], [], [some 23, some 24], [some 26, some 28, some 30, some 32], [some 25], [], [some 27], [], [some 29], [], [some 31], [], [some 33], [], [some 35, some 36], [some 37, some 49], [], [some 38, some 39], [some 41, some 43, some 45, some 47], [some 40], [], [some 42], [], [some 44], [], [some 46], [], [some 48], [], [some 50, some 51], [some 53, some 55, some 57, some 59], [some 52], [], [some 54], [], [some 56], [], [some 58], [], [some 60], [], [some 62, some 63], [some 64, some 66, some 68, some 70, some 72, some 74, some 76, some 78, some 80, some 82], [], [some 65], [], [some 67], [], [some 69], [], [some 71], [], [some 73], [], [some 75], [], [some 77], [], [some 79], [], [some 81], [], [some 83], [], [some 85, some 87], [some 86], [], [some 88], [], [some 90], [], [some 92], [], [some 94], [], [some 96], [], [none, some 98, some 99, some 100, some 101, some 102, some 103, some 104, none, none, none, some 105, some 106, some 107, none, some 108, some 109, none, none, some 110, none, some 111, none, some 112, some 113, some 114], [], [], [], [], [], [], [], [], [], [], [], [], [], [], [], [], []]
def PP (a i : Nat) : Option Nat := (PT.getD a []).getD i none
/-- which of the two tables is in use -/
def cA (sw : Bool) : Nat := if sw then 13 else 4
def PQ (sw : Bool) (a i : Nat) : Option Nat := match a with
  | 0 => match i with
    | 1 => some (cA sw)
    | 2 => some (cA !sw)
    | j => PP 0 j
  | b => PP b i
abbrev hS (sw : Bool) (I : Nat → Nat → Int32) (J : Nat → Nat → Int64) : mi_H := (KK, PQ sw, I, J)
end
section
/-! ===== Row ===== -/
def rowAt (r ra cap : Nat) : Prop := KK[r]? = some (5, 2) ∧ KK[ra]? = some (10, cap) ∧ (∀ sw, PQ sw r 0 = some ra) ∧ cap < 100000 ∧ r ≠ ra
/-- the Row r (its array ra, of cap places) holds xs -/
def Rw (I : Nat → Nat → Int32) (r ra cap : Nat) (xs : List Int32) : Prop := rowAt r ra cap ∧ xs.length ≤ cap ∧ I r 1 = nI xs.length ∧ ∀ j x, xs[j]? = some x → I ra j = x
/-- nothing has changed but in the cells S -/
def Off (S : List Nat) (I I' : Nat → Nat → Int32) : Prop := ∀ a, a ∉ S → I' a = I a
theorem Off.rf {S : List Nat} {I : Nat → Nat → Int32} : Off S I I := fun _ _ => rfl
theorem Off.tr {S : List Nat} {I I' I'' : Nat → Nat → Int32} (h1 : Off S I I') (h2 : Off S I' I'') : Off S I I'' := fun a ha => (h2 a ha).trans (h1 a ha)
theorem Off.up {S S' : List Nat} {I I' : Nat → Nat → Int32} (h : Off S I I') (hs : ∀ a ∈ S, a ∈ S') : Off S' I I' := fun a ha => h a (fun z => ha (hs a z))
theorem Off.w {S : List Nat} {I : Nat → Nat → Int32} {a i : Nat} {x : Int32} (h : a ∈ S) : Off S I (wI I a i x) := fun b hb => wI_c (fun z => hb (z ▸ h))
theorem Rw.off {S : List Nat} {I I' : Nat → Nat → Int32} {r ra cap : Nat} {xs : List Int32} (h : Rw I r ra cap xs) (ho : Off S I I') (h1 : r ∉ S) (h2 : ra ∉ S) : Rw I' r ra cap xs := ⟨h.1, h.2.1, by rw [ho r h1]; exact h.2.2.1, by rw [ho ra h2]; exact h.2.2.2⟩
theorem nI_le' {a b : Nat} (ha : a < 100000) (hb : b < 100000) : nI a ≤ nI b ↔ a ≤ b := nI_leI (by omega) (by omega)
theorem nI_lt' {a b : Nat} (ha : a < 100000) (hb : b < 100000) : nI a < nI b ↔ a < b := nI_ltI (by omega) (by omega)
theorem nI_eq' {a b : Nat} (ha : a < 100000) (hb : b < 100000) : nI a = nI b ↔ a = b := nI_eq (by omega) (by omega)
theorem nI_neg' {a : Nat} (ha : a < 100000) : ¬ nI a < 0 := nI_pos (by omega)
theorem getD_at {xs : List Int32} {j : Nat} (h : j < xs.length) (v : Int32) : xs[j]? = some (xs.getD j v) := by
  rw [List.getD_eq_getElem?_getD, List.getElem?_eq_getElem h]; rfl
theorem Rw.at {I : Nat → Nat → Int32} {r ra cap : Nat} {xs : List Int32} (h : Rw I r ra cap xs) {j : Nat} (hj : j < xs.length) : I ra j = xs.getD j (-9) := h.2.2.2 j _ (getD_at hj _)
section ROW
variable {sw : Bool} {I : Nat → Nat → Int32} {J : Nat → Nat → Int64} {r ra cap : Nat} {xs : List Int32} {Q : Option Value → mi_H → Prop}
theorem c_length (hx : Rw I r ra cap xs) (hQ : Q (some (.int (nI xs.length))) (hS sw I J)) : mCl mX5_length 0 0 0 [.ref r] (hS sw I J) Q := by
  obtain ⟨⟨k1, k2, k3, k4, k5⟩, hl, hn, hc⟩ := hx
  refine mCl.of (by decide) rfl (Nat.le_of_ble_eq_true rfl) ?_
  show mOk _ _ _ _ _ [some (.ref r)] _ _ _ _ _
  refine mOk.aload0n dX5_length_0 rfl ?_
  refine mOk.getIv dX5_length_1 fl_X5_21 (by first | assumption | rfl) hn ?_
  refine mOk.iret dX5_length_4 rfl hQ
/-- in range -/
theorem c_has_in (hx : Rw I r ra cap xs) {j : Nat} (hj : j < xs.length) (hQ : Q (some (.int 1)) (hS sw I J)) : mCl mX5_has 0 0 0 [.ref r, .int (nI j)] (hS sw I J) Q := by
  obtain ⟨⟨k1, k2, k3, k4, k5⟩, hl, hn, hc⟩ := hx
  refine mCl.of (by decide) rfl (Nat.le_of_ble_eq_true rfl) ?_
  show mOk _ _ _ _ _ [some (.ref r), some (.int (nI j))] _ _ _ _ _
  refine mOk.iload1n dX5_has_0 rfl ?_
  refine mOk.iflt (tgt := 25) dX5_has_1 (by decide) (fun c1 => absurd c1 (nI_neg' (by omega))) (fun c1 => ?_)
  refine mOk.iload1n dX5_has_4 rfl ?_
  refine mOk.aload0n dX5_has_5 rfl ?_
  refine mOk.getIv dX5_has_6 fl_X5_21 (by first | assumption | rfl) hn ?_
  refine mOk.icge (tgt := 25) dX5_has_9 (by decide) (fun c9 => absurd c9 (mt (nI_le' (by omega) (by omega)).mp (by omega))) (fun c9 => ?_)
  refine mOk.iload1n dX5_has_12 rfl ?_
  refine mOk.aload0n dX5_has_13 rfl ?_
  refine mOk.getR dX5_has_14 fl_X5_15 (by first | assumption | rfl) (k3 sw) ?_
  refine mOk.alen dX5_has_17 (by first | assumption | rfl) rfl rfl ?_
  refine mOk.icge (tgt := 25) dX5_has_18 (by decide) (fun c18 => absurd c18 (mt (nI_le' (by omega) (by omega)).mp (by omega))) (fun c18 => ?_)
  refine mOk.iconst (x := 1) dX5_has_21 (by decide) ?_
  refine mOk.goto (tgt := 26) dX5_has_22 (by decide) ?_
  refine mOk.zret dX5_has_26 rfl (by decide) hQ
theorem c_has_out (hx : Rw I r ra cap xs) {i : Int32} (hi : i < 0 ∨ nI xs.length ≤ i) (hQ : Q (some (.int 0)) (hS sw I J)) : mCl mX5_has 0 0 0 [.ref r, .int i] (hS sw I J) Q := by
  obtain ⟨⟨k1, k2, k3, k4, k5⟩, hl, hn, hc⟩ := hx
  refine mCl.of (by decide) rfl (Nat.le_of_ble_eq_true rfl) ?_
  show mOk _ _ _ _ _ [some (.ref r), some (.int i)] _ _ _ _ _
  refine mOk.iload1n dX5_has_0 rfl ?_
  refine mOk.iflt (tgt := 25) dX5_has_1 (by decide) (fun c1 => ?_) (fun c1 => ?_)
  · refine mOk.iconst (x := 0) dX5_has_25 (by decide) ?_
    refine mOk.zret dX5_has_26 rfl (by decide) hQ
  refine mOk.iload1n dX5_has_4 rfl ?_
  refine mOk.aload0n dX5_has_5 rfl ?_
  refine mOk.getIv dX5_has_6 fl_X5_21 (by first | assumption | rfl) hn ?_
  refine mOk.icge (tgt := 25) dX5_has_9 (by decide) (fun c9 => ?_) (fun c9 => ?_)
  · refine mOk.iconst (x := 0) dX5_has_25 (by decide) ?_
    refine mOk.zret dX5_has_26 rfl (by decide) hQ
  · exact absurd hi (fun z => z.elim c1 c9)
theorem c_cell_in (hx : Rw I r ra cap xs) {j : Nat} (hj : j < xs.length) (hQ : Q (some (.int (xs.getD j (-9)))) (hS sw I J)) : mCl mX5_cell 0 0 0 [.ref r, .int (nI j)] (hS sw I J) Q := by
  have hv := hx.at hj
  obtain ⟨⟨k1, k2, k3, k4, k5⟩, hl, hn, hc⟩ := hx
  refine mCl.of (by decide) rfl (Nat.le_of_ble_eq_true rfl) ?_
  show mOk _ _ _ _ _ [some (.ref r), some (.int (nI j))] _ _ _ _ _
  refine mOk.iload1n dX5_cell_0 rfl ?_
  refine mOk.iflt (tgt := 30) dX5_cell_1 (by decide) (fun c1 => absurd c1 (nI_neg' (by omega))) (fun c1 => ?_)
  refine mOk.iload1n dX5_cell_4 rfl ?_
  refine mOk.aload0n dX5_cell_5 rfl ?_
  refine mOk.getIv dX5_cell_6 fl_X5_21 (by first | assumption | rfl) hn ?_
  refine mOk.icge (tgt := 30) dX5_cell_9 (by decide) (fun c9 => absurd c9 (mt (nI_le' (by omega) (by omega)).mp (by omega))) (fun c9 => ?_)
  refine mOk.iload1n dX5_cell_12 rfl ?_
  refine mOk.aload0n dX5_cell_13 rfl ?_
  refine mOk.getR dX5_cell_14 fl_X5_15 (by first | assumption | rfl) (k3 sw) ?_
  refine mOk.alen dX5_cell_17 (by first | assumption | rfl) rfl rfl ?_
  refine mOk.icge (tgt := 30) dX5_cell_18 (by decide) (fun c18 => absurd c18 (mt (nI_le' (by omega) (by omega)).mp (by omega))) (fun c18 => ?_)
  refine mOk.aload0n dX5_cell_21 rfl ?_
  refine mOk.getR dX5_cell_22 fl_X5_15 (by first | assumption | rfl) (k3 sw) ?_
  refine mOk.iload1n dX5_cell_25 rfl ?_
  refine mOk.ialdv dX5_cell_26 (by first | assumption | rfl) rfl (by omega) (by first | assumption | decide | omega) hv ?_
  refine mOk.goto (tgt := 32) dX5_cell_27 (by decide) ?_
  refine mOk.iret dX5_cell_32 rfl hQ
theorem c_cell_out (hx : Rw I r ra cap xs) {i : Int32} (hi : i < 0 ∨ nI xs.length ≤ i) (hQ : Q (some (.int (-9))) (hS sw I J)) : mCl mX5_cell 0 0 0 [.ref r, .int i] (hS sw I J) Q := by
  obtain ⟨⟨k1, k2, k3, k4, k5⟩, hl, hn, hc⟩ := hx
  refine mCl.of (by decide) rfl (Nat.le_of_ble_eq_true rfl) ?_
  show mOk _ _ _ _ _ [some (.ref r), some (.int i)] _ _ _ _ _
  refine mOk.iload1n dX5_cell_0 rfl ?_
  refine mOk.iflt (tgt := 30) dX5_cell_1 (by decide) (fun c1 => ?_) (fun c1 => ?_)
  · refine mOk.bipush (x := -9) dX5_cell_30 (by decide) ?_
    refine mOk.iret dX5_cell_32 rfl hQ
  refine mOk.iload1n dX5_cell_4 rfl ?_
  refine mOk.aload0n dX5_cell_5 rfl ?_
  refine mOk.getIv dX5_cell_6 fl_X5_21 (by first | assumption | rfl) hn ?_
  refine mOk.icge (tgt := 30) dX5_cell_9 (by decide) (fun c9 => ?_) (fun c9 => ?_)
  · refine mOk.bipush (x := -9) dX5_cell_30 (by decide) ?_
    refine mOk.iret dX5_cell_32 rfl hQ
  · exact absurd hi (fun z => z.elim c1 c9)
theorem c_rempty (hx : Rw I r ra cap xs) (hQ : ∀ I', Rw I' r ra cap [] → Off [r, ra] I I' → Q none (hS sw I' J)) : mCl mX5_empty 0 0 0 [.ref r] (hS sw I J) Q := by
  obtain ⟨⟨k1, k2, k3, k4, k5⟩, hl, hn, hc⟩ := hx
  refine mCl.of (by decide) rfl (Nat.le_of_ble_eq_true rfl) ?_
  show mOk _ _ _ _ _ [some (.ref r)] _ _ _ _ _
  refine mOk.aload0n dX5_empty_0 rfl ?_
  refine mOk.iconst (x := nI 0) dX5_empty_1 (by decide) ?_
  refine mOk.putIt dX5_empty_2 fl_X5_21 (by first | assumption | rfl) ?_
  refine mOk.vret dX5_empty_5 rfl (by decide) ?_
  exact hQ _ ⟨⟨k1, k2, k3, k4, k5⟩, Nat.zero_le _, wI_s _ _ _ _, fun j x h => by simp at h⟩ (Off.w (by simp))
theorem c_push (hx : Rw I r ra cap xs) (hlt : xs.length < cap) {v : Int32} (hQ : ∀ I', Rw I' r ra cap (xs ++ [v]) → Off [r, ra] I I' → Q (some (.int 1)) (hS sw I' J)) : mCl mX5_push 0 0 0 [.ref r, .int v] (hS sw I J) Q := by
  obtain ⟨⟨k1, k2, k3, k4, k5⟩, hl, hn, hc⟩ := hx
  refine mCl.of (by decide) rfl (Nat.le_of_ble_eq_true rfl) ?_
  show mOk _ _ _ _ _ [some (.ref r), some (.int v)] _ _ _ _ _
  refine mOk.aload0n dX5_push_0 rfl ?_
  refine mOk.getIv dX5_push_1 fl_X5_21 (by first | assumption | rfl) hn ?_
  refine mOk.iflt (tgt := 19) dX5_push_4 (by decide) (fun c4 => absurd c4 (nI_neg' (by omega))) (fun c4 => ?_)
  refine mOk.aload0n dX5_push_7 rfl ?_
  refine mOk.getIv dX5_push_8 fl_X5_21 (by first | assumption | rfl) hn ?_
  refine mOk.aload0n dX5_push_11 rfl ?_
  refine mOk.getR dX5_push_12 fl_X5_15 (by first | assumption | rfl) (k3 sw) ?_
  refine mOk.alen dX5_push_15 (by first | assumption | rfl) rfl rfl ?_
  refine mOk.iclt (tgt := 21) dX5_push_16 (by decide) (fun c16 => ?_) (fun c16 => absurd ((nI_lt' (by omega) (by omega)).mpr hlt) c16)
  refine mOk.aload0n dX5_push_21 rfl ?_
  refine mOk.getR dX5_push_22 fl_X5_15 (by first | assumption | rfl) (k3 sw) ?_
  refine mOk.aload0n dX5_push_25 rfl ?_
  refine mOk.getIv dX5_push_26 fl_X5_21 (by first | assumption | rfl) hn ?_
  refine mOk.iload1n dX5_push_29 rfl ?_
  refine mOk.iastt dX5_push_30 (by first | assumption | rfl) rfl (by omega) (by first | assumption | decide | omega) ?_
  refine mOk.aload0n dX5_push_31 rfl ?_
  refine mOk.dup dX5_push_32 rfl ?_
  refine mOk.getIv dX5_push_33 fl_X5_21 (by first | assumption | rfl) ((congrFun (wI_c k5) 1).trans hn) ?_
  refine mOk.iconst (x := nI 1) dX5_push_36 (by decide) ?_
  refine mOk.iadd dX5_push_37 ?_
  refine mOk.putIt dX5_push_38 fl_X5_21 (by first | assumption | rfl) ?_
  refine mOk.iconst (x := 1) dX5_push_41 (by decide) ?_
  refine mOk.zret dX5_push_42 rfl (by decide) ?_
  refine hQ _ ⟨⟨k1, k2, k3, k4, k5⟩, by simp; omega, ?_, fun j x h => ?_⟩ (Off.tr (Off.w (a := ra) (by simp)) (Off.w (by simp)))
  · rw [wI_s, List.length_append]; exact nI_1 _
  · rw [wI_c (Ne.symm k5)]
    rcases Nat.lt_or_ge j xs.length with q | q
    · rw [List.getElem?_append_left q] at h
      rw [wI_j (by omega)]
      exact hc j x h
    · rw [List.getElem?_append_right q] at h
      have hj : j - xs.length < 1 := (List.getElem?_eq_some_iff.mp h).1
      rw [show j = xs.length by omega] at h ⊢
      simp at h
      rw [wI_s, h]
theorem c_push_full (hx : Rw I r ra cap xs) (hlt : xs.length = cap) {v : Int32} (hQ : Q (some (.int 0)) (hS sw I J)) : mCl mX5_push 0 0 0 [.ref r, .int v] (hS sw I J) Q := by
  obtain ⟨⟨k1, k2, k3, k4, k5⟩, hl, hn, hc⟩ := hx
  refine mCl.of (by decide) rfl (Nat.le_of_ble_eq_true rfl) ?_
  show mOk _ _ _ _ _ [some (.ref r), some (.int v)] _ _ _ _ _
  refine mOk.aload0n dX5_push_0 rfl ?_
  refine mOk.getIv dX5_push_1 fl_X5_21 (by first | assumption | rfl) hn ?_
  refine mOk.iflt (tgt := 19) dX5_push_4 (by decide) (fun c4 => absurd c4 (nI_neg' (by omega))) (fun c4 => ?_)
  refine mOk.aload0n dX5_push_7 rfl ?_
  refine mOk.getIv dX5_push_8 fl_X5_21 (by first | assumption | rfl) hn ?_
  refine mOk.aload0n dX5_push_11 rfl ?_
  refine mOk.getR dX5_push_12 fl_X5_15 (by first | assumption | rfl) (k3 sw) ?_
  refine mOk.alen dX5_push_15 (by first | assumption | rfl) rfl rfl ?_
  refine mOk.iclt (tgt := 21) dX5_push_16 (by decide) (fun c16 => absurd c16 (mt (nI_lt' (by omega) (by omega)).mp (by omega))) (fun c16 => ?_)
  refine mOk.iconst (x := 0) dX5_push_19 (by decide) ?_
  refine mOk.zret dX5_push_20 rfl (by decide) hQ
theorem c_shorten (hx : Rw I r ra cap xs) {m : Nat} (hm : m ≤ xs.length) (hQ : ∀ I', Rw I' r ra cap (xs.take m) → Off [r, ra] I I' → Q none (hS sw I' J)) : mCl mX5_shorten 0 0 0 [.ref r, .int (nI m)] (hS sw I J) Q := by
  have hx0 := hx
  obtain ⟨⟨k1, k2, k3, k4, k5⟩, hl, hn, hc⟩ := hx
  refine mCl.of (by decide) rfl (Nat.le_of_ble_eq_true rfl) ?_
  show mOk _ _ _ _ _ [some (.ref r), some (.int (nI m))] _ _ _ _ _
  refine mOk.iload1n dX5_shorten_0 rfl ?_
  refine mOk.iflt (tgt := 17) dX5_shorten_1 (by decide) (fun c1 => absurd c1 (nI_neg' (by omega))) (fun c1 => ?_)
  refine mOk.iload1n dX5_shorten_4 rfl ?_
  refine mOk.aload0n dX5_shorten_5 rfl ?_
  refine mOk.getIv dX5_shorten_6 fl_X5_21 (by first | assumption | rfl) hn ?_
  refine mOk.icge (tgt := 17) dX5_shorten_9 (by decide) (fun c9 => ?_) (fun c9 => ?_)
  · refine mOk.vret dX5_shorten_17 rfl (by decide) ?_
    have e : m = xs.length := by have := (nI_le' (by omega) (by omega)).mp c9; omega
    refine hQ _ ?_ Off.rf
    rw [e, List.take_length]
    exact hx0
  · refine mOk.aload0n dX5_shorten_12 rfl ?_
    refine mOk.iload1n dX5_shorten_13 rfl ?_
    refine mOk.putIt dX5_shorten_14 fl_X5_21 (by first | assumption | rfl) ?_
    refine mOk.vret dX5_shorten_17 rfl (by decide) ?_
    refine hQ _ ⟨⟨k1, k2, k3, k4, k5⟩, by simp; omega, ?_, fun j x h => ?_⟩ (Off.w (by simp))
    · rw [wI_s, List.length_take, Nat.min_eq_left hm]
    · rw [wI_c (Ne.symm k5)]
      exact hc j x (by
        rw [List.getElem?_take] at h
        split at h
        · exact h
        · cases h)
theorem c_setCell (hx : Rw I r ra cap xs) {j : Nat} (hj : j < xs.length) {v : Int32} (hQ : ∀ I', Rw I' r ra cap (xs.set j v) → Off [r, ra] I I' → Q none (hS sw I' J)) : mCl mX5_setCell 1 0 0 [.ref r, .int (nI j), .int v] (hS sw I J) Q := by
  have hx0 := hx
  obtain ⟨⟨k1, k2, k3, k4, k5⟩, hl, hn, hc⟩ := hx
  refine mCl.of (by decide) rfl (Nat.le_of_ble_eq_true rfl) ?_
  show mOk _ _ _ _ _ [some (.ref r), some (.int (nI j)), some (.int v)] _ _ _ _ _
  refine mOk.aload0n dX5_setCell_0 rfl ?_
  refine mOk.iload1n dX5_setCell_1 rfl ?_
  refine mOk.callV1 (M' := mX5_has) dX5_setCell_2 ml_X5_25 ke_X5_has (by first | assumption | rfl) (by decide) (by decide) (by simp [Value.category]) (c_has_in hx0 hj ?_)
  refine mOk.ifeq (tgt := 15) dX5_setCell_5 (by decide) (fun c5 => absurd c5 ((by decide))) (fun c5 => ?_)
  refine mOk.aload0n dX5_setCell_8 rfl ?_
  refine mOk.getR dX5_setCell_9 fl_X5_15 (by first | assumption | rfl) (k3 sw) ?_
  refine mOk.iload1n dX5_setCell_12 rfl ?_
  refine mOk.iload2n dX5_setCell_13 rfl ?_
  refine mOk.iastt dX5_setCell_14 (by first | assumption | rfl) rfl (by omega) (by first | assumption | decide | omega) ?_
  refine mOk.vret dX5_setCell_15 rfl (by decide) ?_
  refine hQ _ ⟨⟨k1, k2, k3, k4, k5⟩, by simp; omega, ?_, fun i x h => ?_⟩ (Off.w (by simp))
  · rw [wI_c k5, List.length_set]; exact hn
  · by_cases e : j = i
    · subst e
      rw [List.getElem?_set_self hj] at h
      cases h
      exact wI_s _ _ _ _
    · rw [List.getElem?_set_ne e] at h
      rw [wI_j (fun z => e z.symm)]
      exact hc i x h
/-- two neighbours change places -/
def swp (xs : List Int32) (j : Nat) : List Int32 := (xs.set (j + 1) (xs.getD j (-9))).set j (xs.getD (j + 1) (-9))
theorem c_swap (hx : Rw I r ra cap xs) {j : Nat} (hj : j + 1 < xs.length) (hQ : ∀ I', Rw I' r ra cap (swp xs j) → Off [r, ra] I I' → Q none (hS sw I' J)) : mCl mX5_swapWithNext 1 0 0 [.ref r, .int (nI j)] (hS sw I J) Q := by
  have hx0 := hx
  have hv1 := hx.at hj
  have hv0 := hx.at (show j < xs.length by omega)
  obtain ⟨⟨k1, k2, k3, k4, k5⟩, hl, hn, hc⟩ := hx
  refine mCl.of (by decide) rfl (Nat.le_of_ble_eq_true rfl) ?_
  show mOk _ _ _ _ _ [some (.ref r), some (.int (nI j)), none] _ _ _ _ _
  refine mOk.aload0n dX5_swapWithNext_0 rfl ?_
  refine mOk.iload1n dX5_swapWithNext_1 rfl ?_
  refine mOk.callV1 (M' := mX5_has) dX5_swapWithNext_2 ml_X5_25 ke_X5_has (by first | assumption | rfl) (by decide) (by decide) (by simp [Value.category]) (c_has_in hx0 (by omega) ?_)
  refine mOk.ifeq (tgt := 48) dX5_swapWithNext_5 (by decide) (fun c5 => absurd c5 ((by decide))) (fun c5 => ?_)
  refine mOk.aload0n dX5_swapWithNext_8 rfl ?_
  refine mOk.iload1n dX5_swapWithNext_9 rfl ?_
  refine mOk.iconst (x := nI 1) dX5_swapWithNext_10 (by decide) ?_
  refine mOk.iadd dX5_swapWithNext_11 ?_
  refine mOk.top (nI_1 j) ?_
  refine mOk.callV1 (M' := mX5_has) dX5_swapWithNext_12 ml_X5_25 ke_X5_has (by first | assumption | rfl) (by decide) (by decide) (by simp [Value.category]) (c_has_in hx0 hj ?_)
  refine mOk.ifeq (tgt := 48) dX5_swapWithNext_15 (by decide) (fun c15 => absurd c15 ((by decide))) (fun c15 => ?_)
  refine mOk.aload0n dX5_swapWithNext_18 rfl ?_
  refine mOk.getR dX5_swapWithNext_19 fl_X5_15 (by first | assumption | rfl) (k3 sw) ?_
  refine mOk.iload1n dX5_swapWithNext_22 rfl ?_
  refine mOk.iconst (x := nI 1) dX5_swapWithNext_23 (by decide) ?_
  refine mOk.iadd dX5_swapWithNext_24 ?_
  refine mOk.ialdv (j := j + 1) dX5_swapWithNext_25 (by first | assumption | rfl) (nI_1 j) (by omega) (by first | assumption | decide | omega) hv1 ?_
  refine mOk.istore2n dX5_swapWithNext_26 rfl (by decide) rfl ?_
  refine mOk.aload0n dX5_swapWithNext_27 rfl ?_
  refine mOk.getR dX5_swapWithNext_28 fl_X5_15 (by first | assumption | rfl) (k3 sw) ?_
  refine mOk.iload1n dX5_swapWithNext_31 rfl ?_
  refine mOk.iconst (x := nI 1) dX5_swapWithNext_32 (by decide) ?_
  refine mOk.iadd dX5_swapWithNext_33 ?_
  refine mOk.aload0n dX5_swapWithNext_34 rfl ?_
  refine mOk.getR dX5_swapWithNext_35 fl_X5_15 (by first | assumption | rfl) (k3 sw) ?_
  refine mOk.iload1n dX5_swapWithNext_38 rfl ?_
  refine mOk.ialdv dX5_swapWithNext_39 (by first | assumption | rfl) rfl (by omega) (by first | assumption | decide | omega) hv0 ?_
  refine mOk.iastt (j := j + 1) dX5_swapWithNext_40 (by first | assumption | rfl) (nI_1 j) (by omega) (by first | assumption | decide | omega) ?_
  refine mOk.aload0n dX5_swapWithNext_41 rfl ?_
  refine mOk.getR dX5_swapWithNext_42 fl_X5_15 (by first | assumption | rfl) (k3 sw) ?_
  refine mOk.iload1n dX5_swapWithNext_45 rfl ?_
  refine mOk.iload2n dX5_swapWithNext_46 rfl ?_
  refine mOk.iastt dX5_swapWithNext_47 (by first | assumption | rfl) rfl (by omega) (by first | assumption | decide | omega) ?_
  refine mOk.vret dX5_swapWithNext_48 rfl (by decide) ?_
  refine hQ _ ⟨⟨k1, k2, k3, k4, k5⟩, by simp [swp]; omega, ?_, fun i x h => ?_⟩ (Off.tr (Off.w (a := ra) (by simp)) (Off.w (by simp)))
  · rw [wI_c k5, wI_c k5]; simp only [swp, List.length_set]; exact hn
  · unfold swp at h
    by_cases e : j = i
    · subst e
      rw [List.getElem?_set_self (by rw [List.length_set]; omega)] at h
      cases h
      exact wI_s _ _ _ _
    · rw [List.getElem?_set_ne e] at h
      rw [wI_j (fun z => e z.symm)]
      by_cases e2 : j + 1 = i
      · subst e2
        rw [List.getElem?_set_self hj] at h
        cases h
        exact wI_s _ _ _ _
      · rw [List.getElem?_set_ne e2] at h
        rw [wI_j (fun z => e2 z.symm)]
        exact hc i x h
end ROW
end
section
/-! ===== Row: loops ===== -/
/-- how many from the first on are the same -/
def cpl : List Int32 → List Int32 → Nat
  | x :: xs, y :: ys => if x = y then cpl xs ys + 1 else 0
  | _, _ => 0
theorem cpl_is : ∀ (xs ys : List Int32) (i : Nat), i ≤ xs.length → i ≤ ys.length → (∀ j, j < i → xs.getD j (-9) = ys.getD j (-9)) → (i = xs.length ∨ i = ys.length ∨ xs.getD i (-9) ≠ ys.getD i (-9)) → cpl xs ys = i
  | [], ys, i, h1, _, _, _ => by
    have : i = 0 := by simpa using h1
    subst this
    cases ys <;> rfl
  | x :: xs, [], i, _, h2, _, _ => by
    have : i = 0 := by simpa using h2
    subst this
    rfl
  | x :: xs, y :: ys, 0, _, _, _, h => by
    rcases h with h | h | h
    · simp at h
    · simp at h
    · have h : x ≠ y := h
      simp [cpl, h]
  | x :: xs, y :: ys, i + 1, h1, h2, h3, h => by
    have e : x = y := h3 0 (by omega)
    have := cpl_is xs ys i (by simpa using h1) (by simpa using h2) (fun j hj => h3 (j + 1) (by omega)) (by
      rcases h with h | h | h
      · exact Or.inl (by simpa using h)
      · exact Or.inr (Or.inl (by simpa using h))
      · exact Or.inr (Or.inr h))
    simp [cpl, e, this]
theorem cpl_le : ∀ (xs ys : List Int32), cpl xs ys ≤ xs.length ∧ cpl xs ys ≤ ys.length
  | [], ys => by cases ys <;> simp [cpl]
  | x :: xs, [] => by simp [cpl]
  | x :: xs, y :: ys => by
    have := cpl_le xs ys
    unfold cpl
    split <;> simp <;> omega
theorem cpl_eq : ∀ (xs ys : List Int32), xs.length = ys.length → (cpl xs ys = xs.length ↔ xs = ys)
  | [], [], _ => by simp [cpl]
  | [], y :: ys, h => by simp at h
  | x :: xs, [], h => by simp at h
  | x :: xs, y :: ys, h => by
    have h := cpl_eq xs ys (by simpa using h)
    unfold cpl
    by_cases e : x = y
    · simp [e, h]
    · simp [e]
theorem getD_rev {xs : List Int32} {j : Nat} (h : j < xs.length) : xs.reverse.getD j (-9) = xs.getD (xs.length - 1 - j) (-9) := by
  rw [List.getD_eq_getElem?_getD, List.getD_eq_getElem?_getD, List.getElem?_reverse h]
theorem getD_app {xs ys : List Int32} {j : Nat} (h : j < xs.length) : (xs ++ ys).getD j (-9) = xs.getD j (-9) := by
  rw [List.getD_eq_getElem?_getD, List.getD_eq_getElem?_getD, List.getElem?_append_left h]
theorem take_s {xs : List Int32} {i : Nat} (h : i < xs.length) : xs.take (i + 1) = xs.take i ++ [xs.getD i (-9)] := by
  rw [List.take_succ, getD_at h (-9)]; rfl
section ROW2
variable {sw : Bool} {I : Nat → Nat → Int32} {J : Nat → Nat → Int64} {r ra cap o oa ocap : Nat} {xs ys : List Int32} {Q : Option Value → mi_H → Prop}
theorem l_extend {I0 : Nat → Nat → Int32} (hfit : xs.length + ys.length ≤ cap) (ho : ∀ (i : Nat) (I' : Nat → Nat → Int32), Rw I' r ra cap (xs ++ ys.take i) → Off [r, ra] I0 I' → ∃ ocap ws, Rw I' o oa ocap ws ∧ ∀ j, j < ys.length → j < ws.length ∧ ws.getD j (-9) = ys.getD j (-9)) (hQ : ∀ I', Rw I' r ra cap (xs ++ ys) → Off [r, ra] I0 I' → Q none (hS sw I' J)) :
    ∀ (m i : Nat) (I : Nat → Nat → Int32), i + m = ys.length → Rw I r ra cap (xs ++ ys.take i) → Off [r, ra] I0 I → mOk mX5_extend 1 0 0 7 [some (.ref r), some (.ref o), some (.int (nI ys.length)), some (.int (nI i))] [] (hS sw I J) 0 0 Q := by
  intro m
  induction m with
  | zero =>
    intro i I hi hx hoff
    have hc := hx.1.2.2.2.1
    refine mOk.iload3n dX5_extend_7 rfl ?_
    refine mOk.iload2n dX5_extend_8 rfl ?_
    refine mOk.icge (tgt := 28) dX5_extend_9 (by decide) (fun c9 => ?_) (fun c9 => absurd ((nI_le' (by omega) (by omega)).mpr (by omega)) c9)
    refine mOk.vret dX5_extend_28 rfl (by decide) ?_
    rw [List.take_of_length_le (by omega)] at hx
    exact hQ _ hx hoff
  | succ m ih =>
    intro i I hi hx hoff
    have hc := hx.1.2.2.2.1
    obtain ⟨k1, -⟩ := id hx.1
    obtain ⟨ocap, ws, hw, hws⟩ := ho i I hx hoff
    obtain ⟨o1, -⟩ := id hw.1
    obtain ⟨w1, w2⟩ := hws i (by omega)
    refine mOk.iload3n dX5_extend_7 rfl ?_
    refine mOk.iload2n dX5_extend_8 rfl ?_
    refine mOk.icge (tgt := 28) dX5_extend_9 (by decide) (fun c9 => absurd c9 (mt (nI_le' (by omega) (by omega)).mp (by omega))) (fun c9 => ?_)
    refine mOk.aload0n dX5_extend_12 rfl ?_
    refine mOk.aload1n dX5_extend_13 rfl ?_
    refine mOk.iload3n dX5_extend_14 rfl ?_
    refine mOk.callV1 (M' := mX5_cell) dX5_extend_15 ml_X5_33 ke_X5_cell (by first | assumption | rfl) (by decide) (by decide) (by simp [Value.category]) (c_cell_in hw w1 ?_)
    rw [w2]
    refine mOk.callV1 (M' := mX5_push) dX5_extend_18 ml_X5_37 ke_X5_push (by first | assumption | rfl) (by decide) (by decide) (by simp [Value.category]) (c_push hx (by simp; omega) ?_)
    intro I' hx' hoff'
    refine mOk.pop dX5_extend_21 rfl ?_
    refine mOk.iinc3 dX5_extend_22 (mOk.inc1 rfl) (by decide) rfl ?_
    refine mOk.goto (tgt := 7) dX5_extend_25 (by decide) ?_
    refine ih (i + 1) I' (by omega) ?_ (hoff.tr hoff')
    rw [take_s (by omega), ← List.append_assoc]
    exact hx'
theorem c_extend (hx : Rw I r ra cap xs) (hy : Rw I o oa ocap ys) (hfit : xs.length + ys.length ≤ cap) (h1 : o ≠ r) (h2 : o ≠ ra) (h3 : oa ≠ r) (h4 : oa ≠ ra) (hQ : ∀ I', Rw I' r ra cap (xs ++ ys) → Off [r, ra] I I' → Q none (hS sw I' J)) : mCl mX5_extend 1 0 0 [.ref r, .ref o] (hS sw I J) Q := by
  obtain ⟨o1, -⟩ := id hy.1
  refine mCl.of (by decide) rfl (Nat.le_of_ble_eq_true rfl) ?_
  show mOk _ _ _ _ _ [some (.ref r), some (.ref o), none, none] _ _ _ _ _
  refine mOk.aload1n dX5_extend_0 rfl ?_
  refine mOk.getIv dX5_extend_1 fl_X5_21 (by first | assumption | rfl) hy.2.2.1 ?_
  refine mOk.istore2n dX5_extend_4 rfl (by decide) rfl ?_
  refine mOk.iconst (x := nI 0) dX5_extend_5 (by decide) ?_
  refine mOk.istore3n dX5_extend_6 rfl (by decide) rfl ?_
  refine l_extend (oa := oa) (I0 := I) hfit (fun i I' hx' hoff => ⟨ocap, ys, hy.off hoff (by simp [h1, h2]) (by simp [h3, h4]), fun j hj => ⟨hj, rfl⟩⟩) hQ ys.length 0 I (by omega) ?_ Off.rf
  rw [List.take_zero, List.append_nil]
  exact hx
theorem c_extend_same (hx : Rw I r ra cap xs) (hfit : xs.length + xs.length ≤ cap) (hQ : ∀ I', Rw I' r ra cap (xs ++ xs) → Off [r, ra] I I' → Q none (hS sw I' J)) : mCl mX5_extend 1 0 0 [.ref r, .ref r] (hS sw I J) Q := by
  obtain ⟨o1, -⟩ := id hx.1
  refine mCl.of (by decide) rfl (Nat.le_of_ble_eq_true rfl) ?_
  show mOk _ _ _ _ _ [some (.ref r), some (.ref r), none, none] _ _ _ _ _
  refine mOk.aload1n dX5_extend_0 rfl ?_
  refine mOk.getIv dX5_extend_1 fl_X5_21 (by first | assumption | rfl) hx.2.2.1 ?_
  refine mOk.istore2n dX5_extend_4 rfl (by decide) rfl ?_
  refine mOk.iconst (x := nI 0) dX5_extend_5 (by decide) ?_
  refine mOk.istore3n dX5_extend_6 rfl (by decide) rfl ?_
  refine l_extend (oa := ra) (I0 := I) hfit (fun i I' hx' hoff => ⟨cap, _, hx', fun j hj => ⟨by simp; omega, getD_app hj⟩⟩) hQ xs.length 0 I (by omega) ?_ Off.rf
  rw [List.take_zero, List.append_nil]
  exact hx
theorem c_become (hx : Rw I r ra cap xs) (hy : Rw I o oa ocap ys) (hfit : ys.length ≤ cap) (h1 : o ≠ r) (h2 : o ≠ ra) (h3 : oa ≠ r) (h4 : oa ≠ ra) (hQ : ∀ I', Rw I' r ra cap ys → Off [r, ra] I I' → Q none (hS sw I' J)) : mCl mX5_become 2 0 0 [.ref r, .ref o] (hS sw I J) Q := by
  obtain ⟨k1, k2, k3, k4, k5⟩ := id hx.1
  refine mCl.of (by decide) rfl (Nat.le_of_ble_eq_true rfl) ?_
  show mOk _ _ _ _ _ [some (.ref r), some (.ref o)] _ _ _ _ _
  refine mOk.aload1n dX5_become_0 rfl ?_
  refine mOk.aload0n dX5_become_1 rfl ?_
  refine mOk.acmpeq (tgt := 15) dX5_become_2 (by decide) (fun c2 => ?_) (fun c2 => ?_)
  · exact absurd c2 h1
  · refine mOk.aload0n dX5_become_5 rfl ?_
    refine mOk.iconst (x := nI 0) dX5_become_6 (by decide) ?_
    refine mOk.putIt dX5_become_7 fl_X5_21 (by first | assumption | rfl) ?_
    have hw : Off [r, ra] I (wI I r 1 (nI 0)) := Off.w (by simp)
    refine mOk.aload0n dX5_become_10 rfl ?_
    refine mOk.aload1n dX5_become_11 rfl ?_
    refine mOk.callV1 (M' := mX5_extend) dX5_become_12 ml_X5_29 ke_X5_extend (by first | assumption | rfl) (by decide) (by decide) (by simp [Value.category]) (c_extend (xs := []) (cap := cap) ⟨hx.1, Nat.zero_le _, wI_s _ _ _ _, fun j x h => by simp at h⟩ (hy.off hw (by simp [h1, h2]) (by simp [h3, h4])) (by simpa using hfit) h1 h2 h3 h4 ?_)
    intro I' hx' hoff'
    refine mOk.vret dX5_become_15 rfl (by decide) ?_
    exact hQ _ (by simpa using hx') (hw.tr hoff')
theorem l_ahead (hx : Rw I r ra cap xs) (hy : Rw I o oa ocap ys) (hQ : Q (some (.int (nI (cpl xs ys)))) (hS sw I J)) :
    ∀ (m i : Nat), i + m = min xs.length ys.length → (∀ j, j < i → xs.getD j (-9) = ys.getD j (-9)) → mOk mX5_alikeAhead 1 0 0 14 [some (.ref r), some (.ref o), some (.int (nI (min xs.length ys.length))), some (.int (nI i))] [] (hS sw I J) 0 0 Q := by
  have b1 := hx.1.2.2.2.1
  have b2 := hx.2.1
  obtain ⟨k1, -⟩ := id hx.1
  obtain ⟨o1, -⟩ := id hy.1
  intro m
  induction m with
  | zero =>
    intro i hi hj
    refine mOk.iload3n dX5_alikeAhead_14 rfl ?_
    refine mOk.iload2n dX5_alikeAhead_15 rfl ?_
    refine mOk.icge (tgt := 40) dX5_alikeAhead_16 (by decide) (fun c16 => ?_) (fun c16 => absurd ((nI_le' (by omega) (by omega)).mpr (by omega)) c16)
    refine mOk.iload2n dX5_alikeAhead_40 rfl ?_
    refine mOk.iret dX5_alikeAhead_41 rfl ?_
    rw [show min xs.length ys.length = cpl xs ys from (cpl_is xs ys _ (by omega) (by omega) (fun j h => hj j (by omega)) (by omega)).symm]
    exact hQ
  | succ m ih =>
    intro i hi hj
    refine mOk.iload3n dX5_alikeAhead_14 rfl ?_
    refine mOk.iload2n dX5_alikeAhead_15 rfl ?_
    refine mOk.icge (tgt := 40) dX5_alikeAhead_16 (by decide) (fun c16 => absurd c16 (mt (nI_le' (by omega) (by omega)).mp (by omega))) (fun c16 => ?_)
    refine mOk.aload0n dX5_alikeAhead_19 rfl ?_
    refine mOk.iload3n dX5_alikeAhead_20 rfl ?_
    refine mOk.callV1 (M' := mX5_cell) dX5_alikeAhead_21 ml_X5_33 ke_X5_cell (by first | assumption | rfl) (by decide) (by decide) (by simp [Value.category]) (c_cell_in hx (by omega) ?_)
    refine mOk.aload1n dX5_alikeAhead_24 rfl ?_
    refine mOk.iload3n dX5_alikeAhead_25 rfl ?_
    refine mOk.callV1 (M' := mX5_cell) dX5_alikeAhead_26 ml_X5_33 ke_X5_cell (by first | assumption | rfl) (by decide) (by decide) (by simp [Value.category]) (c_cell_in hy (by omega) ?_)
    refine mOk.iceq (tgt := 34) dX5_alikeAhead_29 (by decide) (fun c29 => ?_) (fun c29 => ?_)
    · refine mOk.iinc3 dX5_alikeAhead_34 (mOk.inc1 rfl) (by decide) rfl ?_
      refine mOk.goto (tgt := 14) dX5_alikeAhead_37 (by decide) ?_
      exact ih (i + 1) (by omega) (fun j h => by
        rcases Nat.lt_or_ge j i with q | q
        · exact hj j q
        · rw [show j = i by omega]; exact c29)
    · refine mOk.iload3n dX5_alikeAhead_32 rfl ?_
      refine mOk.iret dX5_alikeAhead_33 rfl ?_
      rw [show i = cpl xs ys from (cpl_is xs ys _ (by omega) (by omega) hj (Or.inr (Or.inr c29))).symm]
      exact hQ
theorem min_nI {a b : Nat} (ha : a < 100000) (hb : b < 100000) : (if nI b < nI a then nI b else nI a) = nI (min a b) := by
  by_cases h : b < a
  · rw [if_pos ((nI_lt' hb ha).mpr h), Nat.min_eq_right (by omega)]
  · rw [if_neg (mt (nI_lt' hb ha).mp h), Nat.min_eq_left (by omega)]
theorem c_ahead (hx : Rw I r ra cap xs) (hy : Rw I o oa ocap ys) (hQ : Q (some (.int (nI (cpl xs ys)))) (hS sw I J)) : mCl mX5_alikeAhead 1 0 0 [.ref r, .ref o] (hS sw I J) Q := by
  obtain ⟨k1, -⟩ := id hx.1
  obtain ⟨o1, -⟩ := id hy.1
  have b1 := hx.1.2.2.2.1
  have b2 := hx.2.1
  have b3 := hy.1.2.2.2.1
  have b4 := hy.2.1
  refine mCl.of (by decide) rfl (Nat.le_of_ble_eq_true rfl) ?_
  show mOk _ _ _ _ _ [some (.ref r), some (.ref o), none, none] _ _ _ _ _
  refine mOk.aload0n dX5_alikeAhead_0 rfl ?_
  refine mOk.getIv dX5_alikeAhead_1 fl_X5_21 (by first | assumption | rfl) hx.2.2.1 ?_
  refine mOk.aload1n dX5_alikeAhead_4 rfl ?_
  refine mOk.getIv dX5_alikeAhead_5 fl_X5_21 (by first | assumption | rfl) hy.2.2.1 ?_
  refine mOk.mmin dX5_alikeAhead_8 ml_X5_44 (by decide) (by decide) (by simp [Value.category]) ?_
  refine mOk.top (min_nI (by omega) (by omega)) ?_
  refine mOk.istore2n dX5_alikeAhead_11 rfl (by decide) rfl ?_
  refine mOk.iconst (x := nI 0) dX5_alikeAhead_12 (by decide) ?_
  refine mOk.istore3n dX5_alikeAhead_13 rfl (by decide) rfl ?_
  exact l_ahead hx hy hQ _ 0 (Nat.zero_add _) (fun j h => absurd h (Nat.not_lt_zero _))
theorem c_isLike (hx : Rw I r ra cap xs) (hy : Rw I o oa ocap ys) (hQ : Q (some (.int (if xs = ys then 1 else 0))) (hS sw I J)) : mCl mX5_isLike 2 0 0 [.ref r, .ref o] (hS sw I J) Q := by
  obtain ⟨k1, -⟩ := id hx.1
  obtain ⟨o1, -⟩ := id hy.1
  have b1 := hx.1.2.2.2.1
  have b2 := hx.2.1
  have b3 := hy.1.2.2.2.1
  have b4 := hy.2.1
  refine mCl.of (by decide) rfl (Nat.le_of_ble_eq_true rfl) ?_
  show mOk _ _ _ _ _ [some (.ref r), some (.ref o)] _ _ _ _ _
  refine mOk.aload0n dX5_isLike_0 rfl ?_
  refine mOk.getIv dX5_isLike_1 fl_X5_21 (by first | assumption | rfl) hx.2.2.1 ?_
  refine mOk.aload1n dX5_isLike_4 rfl ?_
  refine mOk.getIv dX5_isLike_5 fl_X5_21 (by first | assumption | rfl) hy.2.2.1 ?_
  refine mOk.icne (tgt := 27) dX5_isLike_8 (by decide) (fun c8 => ?_) (fun c8 => ?_)
  · refine mOk.iconst (x := 0) dX5_isLike_27 (by decide) ?_
    refine mOk.zret dX5_isLike_28 rfl (by decide) ?_
    rw [if_neg (fun e => c8 (by rw [e]))] at hQ
    exact hQ
  · have hl := (nI_eq' (by omega) (by omega)).mp c8
    have he := cpl_eq xs ys hl
    have hle := cpl_le xs ys
    refine mOk.aload0n dX5_isLike_11 rfl ?_
    refine mOk.aload1n dX5_isLike_12 rfl ?_
    refine mOk.callV1 (M' := mX5_alikeAhead) dX5_isLike_13 ml_X5_40 ke_X5_alikeAhead (by first | assumption | rfl) (by decide) (by decide) (by simp [Value.category]) (c_ahead hx hy ?_)
    refine mOk.aload0n dX5_isLike_16 rfl ?_
    refine mOk.getIv dX5_isLike_17 fl_X5_21 (by first | assumption | rfl) hx.2.2.1 ?_
    refine mOk.icne (tgt := 27) dX5_isLike_20 (by decide) (fun c20 => ?_) (fun c20 => ?_)
    · refine mOk.iconst (x := 0) dX5_isLike_27 (by decide) ?_
      refine mOk.zret dX5_isLike_28 rfl (by decide) ?_
      rw [if_neg (fun e => c20 (by rw [he.mpr e]))] at hQ
      exact hQ
    · refine mOk.iconst (x := 1) dX5_isLike_23 (by decide) ?_
      refine mOk.goto (tgt := 28) dX5_isLike_24 (by decide) ?_
      refine mOk.zret dX5_isLike_28 rfl (by decide) ?_
      rw [if_pos (he.mp ((nI_eq' (by omega) (by omega)).mp c20))] at hQ
      exact hQ
theorem nI_sub1 {a i : Nat} (h : i < a) : nI a - nI 1 - nI i = nI (a - 1 - i) := by
  rw [pk_sub (by omega), pk_sub (by omega)]
theorem l_behind (hx : Rw I r ra cap xs) (hy : Rw I o oa ocap ys) (hQ : Q (some (.int (nI (cpl xs.reverse ys.reverse)))) (hS sw I J)) :
    ∀ (m i : Nat), i + m = min xs.length ys.length → (∀ j, j < i → xs.reverse.getD j (-9) = ys.reverse.getD j (-9)) → mOk mX5_alikeBehind 1 0 0 14 [some (.ref r), some (.ref o), some (.int (nI (min xs.length ys.length))), some (.int (nI i))] [] (hS sw I J) 0 0 Q := by
  have b1 := hx.1.2.2.2.1
  have b2 := hx.2.1
  obtain ⟨k1, -⟩ := id hx.1
  obtain ⟨o1, -⟩ := id hy.1
  intro m
  induction m with
  | zero =>
    intro i hi hj
    refine mOk.iload3n dX5_alikeBehind_14 rfl ?_
    refine mOk.iload2n dX5_alikeBehind_15 rfl ?_
    refine mOk.icge (tgt := 54) dX5_alikeBehind_16 (by decide) (fun c16 => ?_) (fun c16 => absurd ((nI_le' (by omega) (by omega)).mpr (by omega)) c16)
    refine mOk.iload2n dX5_alikeBehind_54 rfl ?_
    refine mOk.iret dX5_alikeBehind_55 rfl ?_
    rw [show min xs.length ys.length = cpl xs.reverse ys.reverse from (cpl_is _ _ _ (by simp; omega) (by simp; omega) (fun j h => hj j (by omega)) (by simp; omega)).symm]
    exact hQ
  | succ m ih =>
    intro i hi hj
    refine mOk.iload3n dX5_alikeBehind_14 rfl ?_
    refine mOk.iload2n dX5_alikeBehind_15 rfl ?_
    refine mOk.icge (tgt := 54) dX5_alikeBehind_16 (by decide) (fun c16 => absurd c16 (mt (nI_le' (by omega) (by omega)).mp (by omega))) (fun c16 => ?_)
    refine mOk.aload0n dX5_alikeBehind_19 rfl ?_
    refine mOk.aload0n dX5_alikeBehind_20 rfl ?_
    refine mOk.getIv dX5_alikeBehind_21 fl_X5_21 (by first | assumption | rfl) hx.2.2.1 ?_
    refine mOk.iconst (x := nI 1) dX5_alikeBehind_24 (by decide) ?_
    refine mOk.isub dX5_alikeBehind_25 ?_
    refine mOk.iload3n dX5_alikeBehind_26 rfl ?_
    refine mOk.isub dX5_alikeBehind_27 ?_
    refine mOk.top (nI_sub1 (by omega)) ?_
    refine mOk.callV1 (M' := mX5_cell) dX5_alikeBehind_28 ml_X5_33 ke_X5_cell (by first | assumption | rfl) (by decide) (by decide) (by simp [Value.category]) (c_cell_in hx (by omega) ?_)
    refine mOk.aload1n dX5_alikeBehind_31 rfl ?_
    refine mOk.aload1n dX5_alikeBehind_32 rfl ?_
    refine mOk.getIv dX5_alikeBehind_33 fl_X5_21 (by first | assumption | rfl) hy.2.2.1 ?_
    refine mOk.iconst (x := nI 1) dX5_alikeBehind_36 (by decide) ?_
    refine mOk.isub dX5_alikeBehind_37 ?_
    refine mOk.iload3n dX5_alikeBehind_38 rfl ?_
    refine mOk.isub dX5_alikeBehind_39 ?_
    refine mOk.top (nI_sub1 (by omega)) ?_
    refine mOk.callV1 (M' := mX5_cell) dX5_alikeBehind_40 ml_X5_33 ke_X5_cell (by first | assumption | rfl) (by decide) (by decide) (by simp [Value.category]) (c_cell_in hy (by omega) ?_)
    rw [← getD_rev (show i < xs.length by omega), ← getD_rev (show i < ys.length by omega)]
    refine mOk.iceq (tgt := 48) dX5_alikeBehind_43 (by decide) (fun c43 => ?_) (fun c43 => ?_)
    · refine mOk.iinc3 dX5_alikeBehind_48 (mOk.inc1 rfl) (by decide) rfl ?_
      refine mOk.goto (tgt := 14) dX5_alikeBehind_51 (by decide) ?_
      exact ih (i + 1) (by omega) (fun j h => by
        rcases Nat.lt_or_ge j i with q | q
        · exact hj j q
        · rw [show j = i by omega]; exact c43)
    · refine mOk.iload3n dX5_alikeBehind_46 rfl ?_
      refine mOk.iret dX5_alikeBehind_47 rfl ?_
      rw [show i = cpl xs.reverse ys.reverse from (cpl_is _ _ _ (by simp; omega) (by simp; omega) hj (Or.inr (Or.inr c43))).symm]
      exact hQ
theorem c_behind (hx : Rw I r ra cap xs) (hy : Rw I o oa ocap ys) (hQ : Q (some (.int (nI (cpl xs.reverse ys.reverse)))) (hS sw I J)) : mCl mX5_alikeBehind 1 0 0 [.ref r, .ref o] (hS sw I J) Q := by
  obtain ⟨k1, -⟩ := id hx.1
  obtain ⟨o1, -⟩ := id hy.1
  have b1 := hx.1.2.2.2.1
  have b2 := hx.2.1
  have b3 := hy.1.2.2.2.1
  have b4 := hy.2.1
  refine mCl.of (by decide) rfl (Nat.le_of_ble_eq_true rfl) ?_
  show mOk _ _ _ _ _ [some (.ref r), some (.ref o), none, none] _ _ _ _ _
  refine mOk.aload0n dX5_alikeBehind_0 rfl ?_
  refine mOk.getIv dX5_alikeBehind_1 fl_X5_21 (by first | assumption | rfl) hx.2.2.1 ?_
  refine mOk.aload1n dX5_alikeBehind_4 rfl ?_
  refine mOk.getIv dX5_alikeBehind_5 fl_X5_21 (by first | assumption | rfl) hy.2.2.1 ?_
  refine mOk.mmin dX5_alikeBehind_8 ml_X5_44 (by decide) (by decide) (by simp [Value.category]) ?_
  refine mOk.top (min_nI (by omega) (by omega)) ?_
  refine mOk.istore2n dX5_alikeBehind_11 rfl (by decide) rfl ?_
  refine mOk.iconst (x := nI 0) dX5_alikeBehind_12 (by decide) ?_
  refine mOk.istore3n dX5_alikeBehind_13 rfl (by decide) rfl ?_
  exact l_behind hx hy hQ _ 0 (Nat.zero_add _) (fun j h => absurd h (Nat.not_lt_zero _))
end ROW2
end
section
/-! ===== Codes ===== -/
/-- a code: its kind, class, first one, second one, pieces -/
abbrev CR : Type := Int32 × Int32 × Int32 × Int32 × List Int32
def tG (T : List CR) (c : Int32) : Option CR := if c < 0 then none else T[c.toNatClampNeg]?
def tK (T : List CR) (c : Int32) : Int32 := match tG T c with
  | some q => q.1
  | none => -9
def tC (T : List CR) (c : Int32) : Int32 := match tG T c with
  | some q => q.2.1
  | none => -9
def tF (T : List CR) (c : Int32) : Int32 := match tG T c with
  | some q => q.2.2.1
  | none => -9
def tS (T : List CR) (c : Int32) : Int32 := match tG T c with
  | some q => q.2.2.2.1
  | none => -9
def tP (T : List CR) (c : Int32) : List Int32 := match tG T c with
  | some q => q.2.2.2.2
  | none => []
theorem tG_in {T : List CR} {j : Nat} (hj : j < 100000) : tG T (nI j) = T[j]? := by
  unfold tG
  rw [if_neg (nI_neg' hj), nI_clamp (show j < 2 ^ 31 by omega)]
theorem tG_out {T : List CR} {c : Int32} (hT : T.length < 100000) (h : c < 0 ∨ nI T.length ≤ c) : tG T c = none := by
  unfold tG
  split
  · rfl
  · next hc =>
    have h := h.resolve_left hc
    obtain ⟨j, hj, rfl⟩ := nI_of hc
    rw [nI_clamp hj]
    have := (nI_leI (show T.length < 2 ^ 31 by omega) hj).mp h
    exact List.getElem?_eq_none this
theorem ixc (c : Int32) {n : Nat} (hn : n < 100000) : (c < 0 ∨ nI n ≤ c) ∨ ∃ j : Nat, j < n ∧ c = nI j := by
  rcases pk_ix c (show n < 2 ^ 31 by omega) with h | h | h
  · exact Or.inl (Or.inl h)
  · exact Or.inl (Or.inr h)
  · exact Or.inr h
theorem tG_at {T : List CR} {j : Nat} (hj : j < T.length) (hT : T.length < 100000) : ∃ q, T[j]? = some q ∧ tG T (nI j) = some q := by
  refine ⟨T[j], List.getElem?_eq_getElem hj, ?_⟩
  rw [tG_in (by omega), List.getElem?_eq_getElem hj]
/-- the pairs, in their order -/
def prs (T : List CR) : List Int32 := (T.zipIdx.filter (fun q => decide (q.1.1 = 1))).map (fun q => nI q.2)
theorem prs_app (T : List CR) (q : CR) : prs (T ++ [q]) = prs T ++ (if q.1 = 1 then [nI T.length] else []) := by
  unfold prs
  rw [List.zipIdx_append, List.filter_append, List.map_append]
  by_cases h : q.1 = 1 <;> simp [h]
/-- what Codes at cb holds -/
def Cd (I : Nat → Nat → Int32) (cb : Nat) (T : List CR) : Prop := (cb = 4 ∨ cb = 13) ∧ T.length ≤ 24 ∧ I cb 7 = nI T.length ∧ (∀ j q, T[j]? = some q → I (cb + 1) j = q.1 ∧ I (cb + 2) j = q.2.1 ∧ I (cb + 3) j = q.2.2.1 ∧ I (cb + 4) j = q.2.2.2.1 ∧ I (cb + 5) j = nI q.2.2.2.2.length ∧ q.2.2.2.2.length ≤ 4 ∧ ∀ k p, q.2.2.2.2[k]? = some p → I (cb + 6) (j * 4 + k) = p) ∧ Rw I (cb + 7) (cb + 8) 7 (prs T)
theorem cdK {cb : Nat} (h : cb = 4 ∨ cb = 13) : KK[cb]? = some (1, 8) ∧ KK[cb + 1]? = some (10, 24) ∧ KK[cb + 2]? = some (10, 24) ∧ KK[cb + 3]? = some (10, 24) ∧ KK[cb + 4]? = some (10, 24) ∧ KK[cb + 5]? = some (10, 24) ∧ KK[cb + 6]? = some (10, 96) ∧ KK[cb + 7]? = some (5, 2) ∧ KK[cb + 8]? = some (10, 7) := by
  rcases h with rfl | rfl <;> exact ⟨rfl, rfl, rfl, rfl, rfl, rfl, rfl, rfl, rfl⟩
theorem cdP {cb : Nat} (h : cb = 4 ∨ cb = 13) (sw : Bool) : PQ sw cb 0 = some (cb + 1) ∧ PQ sw cb 1 = some (cb + 2) ∧ PQ sw cb 2 = some (cb + 3) ∧ PQ sw cb 3 = some (cb + 4) ∧ PQ sw cb 4 = some (cb + 5) ∧ PQ sw cb 5 = some (cb + 6) ∧ PQ sw cb 6 = some (cb + 7) := by
  rcases h with rfl | rfl <;> exact ⟨rfl, rfl, rfl, rfl, rfl, rfl, rfl⟩
section CODES
variable {sw : Bool} {I : Nat → Nat → Int32} {J : Nat → Nat → Int64} {cb : Nat} {T : List CR} {Q : Option Value → mi_H → Prop}
theorem c_size (hx : Cd I cb T) (hQ : Q (some (.int (nI T.length))) (hS sw I J)) : mCl mX1_size 0 0 0 [.ref cb] (hS sw I J) Q := by
  obtain ⟨k0, k1, k2, k3, k4, k5, k6, k7, k8⟩ := cdK hx.1
  refine mCl.of (by decide) rfl (Nat.le_of_ble_eq_true rfl) ?_
  show mOk _ _ _ _ _ [some (.ref cb)] _ _ _ _ _
  refine mOk.aload0n dX1_size_0 rfl ?_
  refine mOk.getIv dX1_size_1 fl_X1_39 (by first | assumption | rfl) hx.2.2.1 ?_
  refine mOk.iret dX1_size_4 rfl hQ
theorem c_holds_in (hx : Cd I cb T) {j : Nat} (hj : j < T.length) (hQ : Q (some (.int 1)) (hS sw I J)) : mCl mX1_holds 0 0 0 [.ref cb, .int (nI j)] (hS sw I J) Q := by
  obtain ⟨k0, k1, k2, k3, k4, k5, k6, k7, k8⟩ := cdK hx.1
  have hl := hx.2.1
  refine mCl.of (by decide) rfl (Nat.le_of_ble_eq_true rfl) ?_
  show mOk _ _ _ _ _ [some (.ref cb), some (.int (nI j))] _ _ _ _ _
  refine mOk.iload1n dX1_holds_0 rfl ?_
  refine mOk.iflt (tgt := 22) dX1_holds_1 (by decide) (fun c1 => absurd c1 (nI_neg' (by omega))) (fun c1 => ?_)
  refine mOk.iload1n dX1_holds_4 rfl ?_
  refine mOk.aload0n dX1_holds_5 rfl ?_
  refine mOk.getIv dX1_holds_6 fl_X1_39 (by first | assumption | rfl) hx.2.2.1 ?_
  refine mOk.icge (tgt := 22) dX1_holds_9 (by decide) (fun c9 => absurd c9 (mt (nI_le' (by omega) (by omega)).mp (by omega))) (fun c9 => ?_)
  refine mOk.iload1n dX1_holds_12 rfl ?_
  refine mOk.bipush (x := nI 24) dX1_holds_13 (by decide) ?_
  refine mOk.icge (tgt := 22) dX1_holds_15 (by decide) (fun c15 => absurd c15 (mt (nI_le' (by omega) (by omega)).mp (by omega))) (fun c15 => ?_)
  refine mOk.iconst (x := 1) dX1_holds_18 (by decide) ?_
  refine mOk.goto (tgt := 23) dX1_holds_19 (by decide) ?_
  refine mOk.zret dX1_holds_23 rfl (by decide) hQ
theorem c_holds_out (hx : Cd I cb T) {i : Int32} (hi : i < 0 ∨ nI T.length ≤ i) (hQ : Q (some (.int 0)) (hS sw I J)) : mCl mX1_holds 0 0 0 [.ref cb, .int i] (hS sw I J) Q := by
  obtain ⟨k0, k1, k2, k3, k4, k5, k6, k7, k8⟩ := cdK hx.1
  refine mCl.of (by decide) rfl (Nat.le_of_ble_eq_true rfl) ?_
  show mOk _ _ _ _ _ [some (.ref cb), some (.int i)] _ _ _ _ _
  refine mOk.iload1n dX1_holds_0 rfl ?_
  refine mOk.iflt (tgt := 22) dX1_holds_1 (by decide) (fun c1 => ?_) (fun c1 => ?_)
  · refine mOk.iconst (x := 0) dX1_holds_22 (by decide) ?_
    refine mOk.zret dX1_holds_23 rfl (by decide) hQ
  refine mOk.iload1n dX1_holds_4 rfl ?_
  refine mOk.aload0n dX1_holds_5 rfl ?_
  refine mOk.getIv dX1_holds_6 fl_X1_39 (by first | assumption | rfl) hx.2.2.1 ?_
  refine mOk.icge (tgt := 22) dX1_holds_9 (by decide) (fun c9 => ?_) (fun c9 => ?_)
  · refine mOk.iconst (x := 0) dX1_holds_22 (by decide) ?_
    refine mOk.zret dX1_holds_23 rfl (by decide) hQ
  · exact absurd hi (fun z => z.elim c1 c9)
theorem c_kindOf (hx : Cd I cb T) {c : Int32} (hQ : Q (some (.int (tK T c))) (hS sw I J)) : mCl mX1_kindOf 1 0 0 [.ref cb, .int c] (hS sw I J) Q := by
  obtain ⟨k0, k1, k2, k3, k4, k5, k6, k7, k8⟩ := cdK hx.1
  obtain ⟨p0, p1, p2, p3, p4, p5, p6⟩ := cdP hx.1 sw
  have hl := hx.2.1
  refine mCl.of (by decide) rfl (Nat.le_of_ble_eq_true rfl) ?_
  show mOk _ _ _ _ _ [some (.ref cb), some (.int c)] _ _ _ _ _
  rcases ixc c (n := T.length) (by omega) with h | ⟨j, hj, rfl⟩
  · refine mOk.aload0n dX1_kindOf_0 rfl ?_
    refine mOk.iload1n dX1_kindOf_1 rfl ?_
    refine mOk.callV1 (M' := mX1_holds) dX1_kindOf_2 ml_X1_47 ke_X1_holds (by first | assumption | rfl) (by decide) (by decide) (by simp [Value.category]) (c_holds_out hx h ?_)
    refine mOk.ifeq (tgt := 17) dX1_kindOf_5 (by decide) (fun c5 => ?_) (fun c5 => absurd (rfl) c5)
    refine mOk.bipush (x := -9) dX1_kindOf_17 (by decide) ?_
    refine mOk.iret dX1_kindOf_19 rfl ?_
    unfold tK at hQ
    rw [tG_out (by omega) h] at hQ
    exact hQ
  · obtain ⟨q, hq, hg⟩ := tG_at hj (by omega)
    refine mOk.aload0n dX1_kindOf_0 rfl ?_
    refine mOk.iload1n dX1_kindOf_1 rfl ?_
    refine mOk.callV1 (M' := mX1_holds) dX1_kindOf_2 ml_X1_47 ke_X1_holds (by first | assumption | rfl) (by decide) (by decide) (by simp [Value.category]) (c_holds_in hx hj ?_)
    refine mOk.ifeq (tgt := 17) dX1_kindOf_5 (by decide) (fun c5 => absurd c5 ((by decide))) (fun c5 => ?_)
    refine mOk.aload0n dX1_kindOf_8 rfl ?_
    refine mOk.getR dX1_kindOf_9 fl_X1_9 (by first | assumption | rfl) (by first | assumption | rfl) ?_
    refine mOk.iload1n dX1_kindOf_12 rfl ?_
    refine mOk.ialdv dX1_kindOf_13 (by first | assumption | rfl) rfl (by omega) (by first | assumption | decide | omega) ((hx.2.2.2.1 j q hq).1) ?_
    refine mOk.goto (tgt := 19) dX1_kindOf_14 (by decide) ?_
    refine mOk.iret dX1_kindOf_19 rfl ?_
    unfold tK at hQ
    rw [hg] at hQ
    exact hQ
theorem c_classOf (hx : Cd I cb T) {c : Int32} (hQ : Q (some (.int (tC T c))) (hS sw I J)) : mCl mX1_classOf 1 0 0 [.ref cb, .int c] (hS sw I J) Q := by
  obtain ⟨k0, k1, k2, k3, k4, k5, k6, k7, k8⟩ := cdK hx.1
  obtain ⟨p0, p1, p2, p3, p4, p5, p6⟩ := cdP hx.1 sw
  have hl := hx.2.1
  refine mCl.of (by decide) rfl (Nat.le_of_ble_eq_true rfl) ?_
  show mOk _ _ _ _ _ [some (.ref cb), some (.int c)] _ _ _ _ _
  rcases ixc c (n := T.length) (by omega) with h | ⟨j, hj, rfl⟩
  · refine mOk.aload0n dX1_classOf_0 rfl ?_
    refine mOk.iload1n dX1_classOf_1 rfl ?_
    refine mOk.callV1 (M' := mX1_holds) dX1_classOf_2 ml_X1_47 ke_X1_holds (by first | assumption | rfl) (by decide) (by decide) (by simp [Value.category]) (c_holds_out hx h ?_)
    refine mOk.ifeq (tgt := 17) dX1_classOf_5 (by decide) (fun c5 => ?_) (fun c5 => absurd (rfl) c5)
    refine mOk.bipush (x := -9) dX1_classOf_17 (by decide) ?_
    refine mOk.iret dX1_classOf_19 rfl ?_
    unfold tC at hQ
    rw [tG_out (by omega) h] at hQ
    exact hQ
  · obtain ⟨q, hq, hg⟩ := tG_at hj (by omega)
    refine mOk.aload0n dX1_classOf_0 rfl ?_
    refine mOk.iload1n dX1_classOf_1 rfl ?_
    refine mOk.callV1 (M' := mX1_holds) dX1_classOf_2 ml_X1_47 ke_X1_holds (by first | assumption | rfl) (by decide) (by decide) (by simp [Value.category]) (c_holds_in hx hj ?_)
    refine mOk.ifeq (tgt := 17) dX1_classOf_5 (by decide) (fun c5 => absurd c5 ((by decide))) (fun c5 => ?_)
    refine mOk.aload0n dX1_classOf_8 rfl ?_
    refine mOk.getR dX1_classOf_9 fl_X1_15 (by first | assumption | rfl) (by first | assumption | rfl) ?_
    refine mOk.iload1n dX1_classOf_12 rfl ?_
    refine mOk.ialdv dX1_classOf_13 (by first | assumption | rfl) rfl (by omega) (by first | assumption | decide | omega) ((hx.2.2.2.1 j q hq).2.1) ?_
    refine mOk.goto (tgt := 19) dX1_classOf_14 (by decide) ?_
    refine mOk.iret dX1_classOf_19 rfl ?_
    unfold tC at hQ
    rw [hg] at hQ
    exact hQ
theorem c_firstOf (hx : Cd I cb T) {c : Int32} (hQ : Q (some (.int (tF T c))) (hS sw I J)) : mCl mX1_firstOf 1 0 0 [.ref cb, .int c] (hS sw I J) Q := by
  obtain ⟨k0, k1, k2, k3, k4, k5, k6, k7, k8⟩ := cdK hx.1
  obtain ⟨p0, p1, p2, p3, p4, p5, p6⟩ := cdP hx.1 sw
  have hl := hx.2.1
  refine mCl.of (by decide) rfl (Nat.le_of_ble_eq_true rfl) ?_
  show mOk _ _ _ _ _ [some (.ref cb), some (.int c)] _ _ _ _ _
  rcases ixc c (n := T.length) (by omega) with h | ⟨j, hj, rfl⟩
  · refine mOk.aload0n dX1_firstOf_0 rfl ?_
    refine mOk.iload1n dX1_firstOf_1 rfl ?_
    refine mOk.callV1 (M' := mX1_holds) dX1_firstOf_2 ml_X1_47 ke_X1_holds (by first | assumption | rfl) (by decide) (by decide) (by simp [Value.category]) (c_holds_out hx h ?_)
    refine mOk.ifeq (tgt := 17) dX1_firstOf_5 (by decide) (fun c5 => ?_) (fun c5 => absurd (rfl) c5)
    refine mOk.bipush (x := -9) dX1_firstOf_17 (by decide) ?_
    refine mOk.iret dX1_firstOf_19 rfl ?_
    unfold tF at hQ
    rw [tG_out (by omega) h] at hQ
    exact hQ
  · obtain ⟨q, hq, hg⟩ := tG_at hj (by omega)
    refine mOk.aload0n dX1_firstOf_0 rfl ?_
    refine mOk.iload1n dX1_firstOf_1 rfl ?_
    refine mOk.callV1 (M' := mX1_holds) dX1_firstOf_2 ml_X1_47 ke_X1_holds (by first | assumption | rfl) (by decide) (by decide) (by simp [Value.category]) (c_holds_in hx hj ?_)
    refine mOk.ifeq (tgt := 17) dX1_firstOf_5 (by decide) (fun c5 => absurd c5 ((by decide))) (fun c5 => ?_)
    refine mOk.aload0n dX1_firstOf_8 rfl ?_
    refine mOk.getR dX1_firstOf_9 fl_X1_18 (by first | assumption | rfl) (by first | assumption | rfl) ?_
    refine mOk.iload1n dX1_firstOf_12 rfl ?_
    refine mOk.ialdv dX1_firstOf_13 (by first | assumption | rfl) rfl (by omega) (by first | assumption | decide | omega) ((hx.2.2.2.1 j q hq).2.2.1) ?_
    refine mOk.goto (tgt := 19) dX1_firstOf_14 (by decide) ?_
    refine mOk.iret dX1_firstOf_19 rfl ?_
    unfold tF at hQ
    rw [hg] at hQ
    exact hQ
theorem c_secondOf (hx : Cd I cb T) {c : Int32} (hQ : Q (some (.int (tS T c))) (hS sw I J)) : mCl mX1_secondOf 1 0 0 [.ref cb, .int c] (hS sw I J) Q := by
  obtain ⟨k0, k1, k2, k3, k4, k5, k6, k7, k8⟩ := cdK hx.1
  obtain ⟨p0, p1, p2, p3, p4, p5, p6⟩ := cdP hx.1 sw
  have hl := hx.2.1
  refine mCl.of (by decide) rfl (Nat.le_of_ble_eq_true rfl) ?_
  show mOk _ _ _ _ _ [some (.ref cb), some (.int c)] _ _ _ _ _
  rcases ixc c (n := T.length) (by omega) with h | ⟨j, hj, rfl⟩
  · refine mOk.aload0n dX1_secondOf_0 rfl ?_
    refine mOk.iload1n dX1_secondOf_1 rfl ?_
    refine mOk.callV1 (M' := mX1_holds) dX1_secondOf_2 ml_X1_47 ke_X1_holds (by first | assumption | rfl) (by decide) (by decide) (by simp [Value.category]) (c_holds_out hx h ?_)
    refine mOk.ifeq (tgt := 17) dX1_secondOf_5 (by decide) (fun c5 => ?_) (fun c5 => absurd (rfl) c5)
    refine mOk.bipush (x := -9) dX1_secondOf_17 (by decide) ?_
    refine mOk.iret dX1_secondOf_19 rfl ?_
    unfold tS at hQ
    rw [tG_out (by omega) h] at hQ
    exact hQ
  · obtain ⟨q, hq, hg⟩ := tG_at hj (by omega)
    refine mOk.aload0n dX1_secondOf_0 rfl ?_
    refine mOk.iload1n dX1_secondOf_1 rfl ?_
    refine mOk.callV1 (M' := mX1_holds) dX1_secondOf_2 ml_X1_47 ke_X1_holds (by first | assumption | rfl) (by decide) (by decide) (by simp [Value.category]) (c_holds_in hx hj ?_)
    refine mOk.ifeq (tgt := 17) dX1_secondOf_5 (by decide) (fun c5 => absurd c5 ((by decide))) (fun c5 => ?_)
    refine mOk.aload0n dX1_secondOf_8 rfl ?_
    refine mOk.getR dX1_secondOf_9 fl_X1_21 (by first | assumption | rfl) (by first | assumption | rfl) ?_
    refine mOk.iload1n dX1_secondOf_12 rfl ?_
    refine mOk.ialdv dX1_secondOf_13 (by first | assumption | rfl) rfl (by omega) (by first | assumption | decide | omega) ((hx.2.2.2.1 j q hq).2.2.2.1) ?_
    refine mOk.goto (tgt := 19) dX1_secondOf_14 (by decide) ?_
    refine mOk.iret dX1_secondOf_19 rfl ?_
    unfold tS at hQ
    rw [hg] at hQ
    exact hQ
theorem c_pieceCount (hx : Cd I cb T) {c : Int32} (hQ : Q (some (.int (nI (tP T c).length))) (hS sw I J)) : mCl mX1_pieceCount 1 0 0 [.ref cb, .int c] (hS sw I J) Q := by
  obtain ⟨k0, k1, k2, k3, k4, k5, k6, k7, k8⟩ := cdK hx.1
  obtain ⟨p0, p1, p2, p3, p4, p5, p6⟩ := cdP hx.1 sw
  have hl := hx.2.1
  refine mCl.of (by decide) rfl (Nat.le_of_ble_eq_true rfl) ?_
  show mOk _ _ _ _ _ [some (.ref cb), some (.int c)] _ _ _ _ _
  rcases ixc c (n := T.length) (by omega) with h | ⟨j, hj, rfl⟩
  · refine mOk.aload0n dX1_pieceCount_0 rfl ?_
    refine mOk.iload1n dX1_pieceCount_1 rfl ?_
    refine mOk.callV1 (M' := mX1_holds) dX1_pieceCount_2 ml_X1_47 ke_X1_holds (by first | assumption | rfl) (by decide) (by decide) (by simp [Value.category]) (c_holds_out hx h ?_)
    refine mOk.ifeq (tgt := 17) dX1_pieceCount_5 (by decide) (fun c5 => ?_) (fun c5 => absurd (rfl) c5)
    refine mOk.iconst (x := nI 0) dX1_pieceCount_17 (by decide) ?_
    refine mOk.iret dX1_pieceCount_18 rfl ?_
    unfold tP at hQ
    rw [tG_out (by omega) h] at hQ
    exact hQ
  · obtain ⟨q, hq, hg⟩ := tG_at hj (by omega)
    refine mOk.aload0n dX1_pieceCount_0 rfl ?_
    refine mOk.iload1n dX1_pieceCount_1 rfl ?_
    refine mOk.callV1 (M' := mX1_holds) dX1_pieceCount_2 ml_X1_47 ke_X1_holds (by first | assumption | rfl) (by decide) (by decide) (by simp [Value.category]) (c_holds_in hx hj ?_)
    refine mOk.ifeq (tgt := 17) dX1_pieceCount_5 (by decide) (fun c5 => absurd c5 ((by decide))) (fun c5 => ?_)
    refine mOk.aload0n dX1_pieceCount_8 rfl ?_
    refine mOk.getR dX1_pieceCount_9 fl_X1_24 (by first | assumption | rfl) (by first | assumption | rfl) ?_
    refine mOk.iload1n dX1_pieceCount_12 rfl ?_
    refine mOk.ialdv dX1_pieceCount_13 (by first | assumption | rfl) rfl (by omega) (by first | assumption | decide | omega) ((hx.2.2.2.1 j q hq).2.2.2.2.1) ?_
    refine mOk.goto (tgt := 18) dX1_pieceCount_14 (by decide) ?_
    refine mOk.iret dX1_pieceCount_18 rfl ?_
    unfold tP at hQ
    rw [hg] at hQ
    exact hQ
theorem Cd.le4 (hx : Cd I cb T) (c : Int32) : (tP T c).length ≤ 4 := by
  unfold tP tG
  split
  · next q hq =>
    split at hq
    · cases hq
    · exact (hx.2.2.2.1 _ q hq).2.2.2.2.2.1
  · exact Nat.zero_le _
theorem c_piece (hx : Cd I cb T) {c : Int32} {k : Nat} (hk : k < 100000) (hQ : Q (some (.int ((tP T c).getD k (-9)))) (hS sw I J)) : mCl mX1_piece 1 0 0 [.ref cb, .int c, .int (nI k)] (hS sw I J) Q := by
  obtain ⟨k0, k1, k2, k3, k4, k5, k6, k7, k8⟩ := cdK hx.1
  obtain ⟨p0, p1, p2, p3, p4, p5, p6⟩ := cdP hx.1 sw
  have hl := hx.2.1
  have h4 := hx.le4 c
  refine mCl.of (by decide) rfl (Nat.le_of_ble_eq_true rfl) ?_
  show mOk _ _ _ _ _ [some (.ref cb), some (.int c), some (.int (nI k))] _ _ _ _ _
  rcases ixc c (n := T.length) (by omega) with h | ⟨j, hj, rfl⟩
  · refine mOk.aload0n dX1_piece_0 rfl ?_
    refine mOk.iload1n dX1_piece_1 rfl ?_
    refine mOk.callV1 (M' := mX1_holds) dX1_piece_2 ml_X1_47 ke_X1_holds (by first | assumption | rfl) (by decide) (by decide) (by simp [Value.category]) (c_holds_out hx h ?_)
    refine mOk.ifeq (tgt := 27) dX1_piece_5 (by decide) (fun c5 => ?_) (fun c5 => absurd (rfl) c5)
    refine mOk.bipush (x := -9) dX1_piece_27 (by decide) ?_
    refine mOk.iret dX1_piece_29 rfl ?_
    unfold tP at hQ
    rw [tG_out (by omega) h] at hQ
    exact hQ
  · obtain ⟨q, hq, hg⟩ := tG_at hj (by omega)
    have hp : tP T (nI j) = q.2.2.2.2 := by unfold tP; rw [hg]
    rw [hp] at hQ h4
    have hz := hx.2.2.2.1 j q hq
    have hout : ¬ k < q.2.2.2.2.length → q.2.2.2.2.getD k (-9) = -9 := fun z => by rw [List.getD_eq_getElem?_getD, List.getElem?_eq_none (by omega)]; rfl
    refine mOk.aload0n dX1_piece_0 rfl ?_
    refine mOk.iload1n dX1_piece_1 rfl ?_
    refine mOk.callV1 (M' := mX1_holds) dX1_piece_2 ml_X1_47 ke_X1_holds (by first | assumption | rfl) (by decide) (by decide) (by simp [Value.category]) (c_holds_in hx hj ?_)
    refine mOk.ifeq (tgt := 27) dX1_piece_5 (by decide) (fun c5 => absurd c5 ((by decide))) (fun c5 => ?_)
    refine mOk.iload2n dX1_piece_8 rfl ?_
    refine mOk.iflt (tgt := 27) dX1_piece_9 (by decide) (fun c9 => absurd c9 (nI_neg' hk)) (fun c9 => ?_)
    refine mOk.iload2n dX1_piece_12 rfl ?_
    refine mOk.iconst (x := nI 4) dX1_piece_13 (by decide) ?_
    refine mOk.icge (tgt := 27) dX1_piece_14 (by decide) (fun c14 => ?_) (fun c14 => ?_)
    · have := (nI_le' (by omega) (by omega)).mp c14
      refine mOk.bipush (x := -9) dX1_piece_27 (by decide) ?_
      refine mOk.iret dX1_piece_29 rfl ?_
      rw [hout (by omega)] at hQ
      exact hQ
    · have hk4 : k < 4 := by
        rcases Nat.lt_or_ge k 4 with z | z
        · exact z
        · exact absurd ((nI_le' (by omega) (by omega)).mpr z) c14
      refine mOk.iload2n dX1_piece_17 rfl ?_
      refine mOk.aload0n dX1_piece_18 rfl ?_
      refine mOk.getR dX1_piece_19 fl_X1_24 (by first | assumption | rfl) (by first | assumption | rfl) ?_
      refine mOk.iload1n dX1_piece_22 rfl ?_
      refine mOk.ialdv dX1_piece_23 (by first | assumption | rfl) rfl (by omega) (by first | assumption | decide | omega) hz.2.2.2.2.1 ?_
      refine mOk.iclt (tgt := 30) dX1_piece_24 (by decide) (fun c24 => ?_) (fun c24 => ?_)
      · have hk2 := (nI_lt' (by omega) (by omega)).mp c24
        refine mOk.aload0n dX1_piece_30 rfl ?_
        refine mOk.getR dX1_piece_31 fl_X1_27 (by first | assumption | rfl) (by first | assumption | rfl) ?_
        refine mOk.iload1n dX1_piece_34 rfl ?_
        refine mOk.iconst (x := nI 4) dX1_piece_35 (by decide) ?_
        refine mOk.imul dX1_piece_36 ?_
        refine mOk.top (pk_mul j 4) ?_
        refine mOk.iload2n dX1_piece_37 rfl ?_
        refine mOk.iadd dX1_piece_38 ?_
        refine mOk.top (nI_add (j * 4) k) ?_
        refine mOk.ialdv dX1_piece_39 (by first | assumption | rfl) rfl (by omega) (by first | assumption | decide | omega) (hz.2.2.2.2.2.2 k _ (getD_at hk2 (-9))) ?_
        refine mOk.iret dX1_piece_40 rfl ?_
        exact hQ
      · refine mOk.bipush (x := -9) dX1_piece_27 (by decide) ?_
        refine mOk.iret dX1_piece_29 rfl ?_
        rw [hout (mt (nI_lt' (by omega) (by omega)).mpr c24)] at hQ
        exact hQ
theorem c_isBase (hx : Cd I cb T) {c : Int32} (hQ : Q (some (.int (if tC T c = 0 then 1 else 0))) (hS sw I J)) : mCl mX1_isBase 2 0 0 [.ref cb, .int c] (hS sw I J) Q := by
  obtain ⟨k0, k1, k2, k3, k4, k5, k6, k7, k8⟩ := cdK hx.1
  refine mCl.of (by decide) rfl (Nat.le_of_ble_eq_true rfl) ?_
  show mOk _ _ _ _ _ [some (.ref cb), some (.int c)] _ _ _ _ _
  refine mOk.aload0n dX1_isBase_0 rfl ?_
  refine mOk.iload1n dX1_isBase_1 rfl ?_
  refine mOk.callV1 (M' := mX1_classOf) dX1_isBase_2 ml_X1_51 ke_X1_classOf (by first | assumption | rfl) (by decide) (by decide) (by simp [Value.category]) (c_classOf hx ?_)
  refine mOk.ifne (tgt := 12) dX1_isBase_5 (by decide) (fun c5 => ?_) (fun c5 => ?_)
  · refine mOk.iconst (x := 0) dX1_isBase_12 (by decide) ?_
    refine mOk.zret dX1_isBase_13 rfl (by decide) ?_
    rw [if_neg c5] at hQ
    exact hQ
  · refine mOk.iconst (x := 1) dX1_isBase_8 (by decide) ?_
    refine mOk.goto (tgt := 13) dX1_isBase_9 (by decide) ?_
    refine mOk.zret dX1_isBase_13 rfl (by decide) ?_
    rw [if_pos c5] at hQ
    exact hQ
theorem c_isFull (hx : Cd I cb T) (hQ : Q (some (.int (if T.length < 24 then 0 else 1))) (hS sw I J)) : mCl mX1_isFull 0 0 0 [.ref cb] (hS sw I J) Q := by
  obtain ⟨k0, k1, k2, k3, k4, k5, k6, k7, k8⟩ := cdK hx.1
  have hl := hx.2.1
  refine mCl.of (by decide) rfl (Nat.le_of_ble_eq_true rfl) ?_
  show mOk _ _ _ _ _ [some (.ref cb)] _ _ _ _ _
  refine mOk.aload0n dX1_isFull_0 rfl ?_
  refine mOk.getIv dX1_isFull_1 fl_X1_39 (by first | assumption | rfl) hx.2.2.1 ?_
  refine mOk.bipush (x := nI 24) dX1_isFull_4 (by decide) ?_
  refine mOk.iclt (tgt := 13) dX1_isFull_6 (by decide) (fun c6 => ?_) (fun c6 => ?_)
  · refine mOk.iconst (x := 0) dX1_isFull_13 (by decide) ?_
    refine mOk.zret dX1_isFull_14 rfl (by decide) ?_
    rw [if_pos ((nI_lt' (by omega) (by omega)).mp c6)] at hQ
    exact hQ
  · refine mOk.iconst (x := 1) dX1_isFull_9 (by decide) ?_
    refine mOk.goto (tgt := 14) dX1_isFull_10 (by decide) ?_
    refine mOk.zret dX1_isFull_14 rfl (by decide) ?_
    rw [if_neg (mt (nI_lt' (by omega) (by omega)).mpr c6)] at hQ
    exact hQ
theorem c_hasRoom (hx : Cd I cb T) (hQ : Q (some (.int (if (prs T).length < 7 then 1 else 0))) (hS sw I J)) : mCl mX1_hasRoomForPair 1 0 0 [.ref cb] (hS sw I J) Q := by
  obtain ⟨k0, k1, k2, k3, k4, k5, k6, k7, k8⟩ := cdK hx.1
  obtain ⟨p0, p1, p2, p3, p4, p5, p6⟩ := cdP hx.1 sw
  have hr := hx.2.2.2.2
  have hl := hr.2.1
  refine mCl.of (by decide) rfl (Nat.le_of_ble_eq_true rfl) ?_
  show mOk _ _ _ _ _ [some (.ref cb)] _ _ _ _ _
  refine mOk.aload0n dX1_hasRoomForPair_0 rfl ?_
  refine mOk.getR dX1_hasRoomForPair_1 fl_X1_35 (by first | assumption | rfl) (by first | assumption | rfl) ?_
  refine mOk.callV0 (M' := mX5_length) dX1_hasRoomForPair_4 ml_X1_43 ke_X5_length (by first | assumption | rfl) (by decide) (by decide) (by simp [Value.category]) (c_length hr ?_)
  refine mOk.bipush (x := nI 7) dX1_hasRoomForPair_7 (by decide) ?_
  refine mOk.icge (tgt := 16) dX1_hasRoomForPair_9 (by decide) (fun c9 => ?_) (fun c9 => ?_)
  · refine mOk.iconst (x := 0) dX1_hasRoomForPair_16 (by decide) ?_
    refine mOk.zret dX1_hasRoomForPair_17 rfl (by decide) ?_
    have := (nI_le' (by omega) (by omega)).mp c9
    rw [if_neg (by omega)] at hQ
    exact hQ
  · refine mOk.iconst (x := 1) dX1_hasRoomForPair_12 (by decide) ?_
    refine mOk.goto (tgt := 17) dX1_hasRoomForPair_13 (by decide) ?_
    refine mOk.zret dX1_hasRoomForPair_17 rfl (by decide) ?_
    have := mt (nI_le' (by omega) (by omega)).mpr c9
    rw [if_pos (by omega)] at hQ
    exact hQ
end CODES
end
section
/-! ===== Codes: loops, growth ===== -/
theorem drop_c {xs : List Int32} {i : Nat} (h : i < xs.length) : xs.drop i = xs.getD i (-9) :: xs.drop (i + 1) := by
  rw [List.drop_eq_getElem_cons h, List.getD_eq_getElem?_getD, List.getElem?_eq_getElem h]; rfl
/-- the first that is so, or NONE -/
def fnd (p : Int32 → Bool) : List Int32 → Int32
  | [] => -9
  | x :: xs => if p x = true then x else fnd p xs
def isPr (T : List CR) (a b : Int32) (c : Int32) : Bool := decide (tF T c = a) && decide (tS T c = b)
theorem isPr_iff {T : List CR} {a b c : Int32} : isPr T a b c = true ↔ tF T c = a ∧ tS T c = b := by simp [isPr]
def pairC (T : List CR) (a b : Int32) : Int32 := fnd (isPr T a b) (prs T)
def isSec (T : List CR) (b : Int32) : Bool := (prs T).any (fun c => decide (tS T c = b))
/-- the pieces ps stand in xs at s -/
def stn (ps xs : List Int32) (s : Nat) : Prop := ∀ k, k < ps.length → s + k < xs.length ∧ xs.getD (s + k) (-9) = ps.getD k (-9)
def cntK (T : List CR) (kd : Int32) : Nat := T.countP (fun q => decide (q.1 = kd))
def cntM (T : List CR) : Nat := T.countP (fun q => !decide (q.2.1 = 0))
def mF (T : List CR) (a : Int32) : Prop := (tC T a = 0 ∧ (tK T a = 0 ∨ tK T a = 1)) ∧ (tP T a).length < 4
section CODES2
variable {sw : Bool} {I : Nat → Nat → Int32} {J : Nat → Nat → Int64} {cb : Nat} {T : List CR} {Q : Option Value → mi_H → Prop}
theorem l_pairOf (hx : Cd I cb T) {a b : Int32} (hQ : Q (some (.int (pairC T a b))) (hS sw I J)) :
    ∀ (m i : Nat) (l4 : Option Value), mi_s [some (.ref cb), some (.int a), some (.int b), some (.int (nI i)), l4] 4 = true → i + m = (prs T).length → pairC T a b = fnd (isPr T a b) ((prs T).drop i) → mOk mX1_pairOf 2 0 0 2 [some (.ref cb), some (.int a), some (.int b), some (.int (nI i)), l4] [] (hS sw I J) 0 0 Q := by
  obtain ⟨k0, k1, k2, k3, k4, k5, k6, k7, k8⟩ := cdK hx.1
  obtain ⟨p0, p1, p2, p3, p4, p5, p6⟩ := cdP hx.1 sw
  have hr := hx.2.2.2.2
  have hl := hr.2.1
  intro m
  induction m with
  | zero =>
    intro i l4 h4 hi hf
    refine mOk.iload3n dX1_pairOf_2 rfl ?_
    refine mOk.aload0n dX1_pairOf_3 rfl ?_
    refine mOk.getR dX1_pairOf_4 fl_X1_35 (by first | assumption | rfl) (by first | assumption | rfl) ?_
    refine mOk.callV0 (M' := mX5_length) dX1_pairOf_7 ml_X1_43 ke_X5_length (by first | assumption | rfl) (by decide) (by decide) (by simp [Value.category]) (c_length hr ?_)
    refine mOk.icge (tgt := 52) dX1_pairOf_10 (by decide) (fun c10 => ?_) (fun c10 => absurd ((nI_le' (by omega) (by omega)).mpr (by omega)) c10)
    refine mOk.bipush (x := -9) dX1_pairOf_52 (by decide) ?_
    refine mOk.iret dX1_pairOf_54 rfl ?_
    rw [hf, List.drop_of_length_le (by omega)] at hQ
    exact hQ
  | succ m ih =>
    intro i l4 h4 hi hf
    rw [drop_c (by omega)] at hf
    refine mOk.iload3n dX1_pairOf_2 rfl ?_
    refine mOk.aload0n dX1_pairOf_3 rfl ?_
    refine mOk.getR dX1_pairOf_4 fl_X1_35 (by first | assumption | rfl) (by first | assumption | rfl) ?_
    refine mOk.callV0 (M' := mX5_length) dX1_pairOf_7 ml_X1_43 ke_X5_length (by first | assumption | rfl) (by decide) (by decide) (by simp [Value.category]) (c_length hr ?_)
    refine mOk.icge (tgt := 52) dX1_pairOf_10 (by decide) (fun c10 => absurd c10 (mt (nI_le' (by omega) (by omega)).mp (by omega))) (fun c10 => ?_)
    refine mOk.aload0n dX1_pairOf_13 rfl ?_
    refine mOk.getR dX1_pairOf_14 fl_X1_35 (by first | assumption | rfl) (by first | assumption | rfl) ?_
    refine mOk.iload3n dX1_pairOf_17 rfl ?_
    refine mOk.callV1 (M' := mX5_cell) dX1_pairOf_18 ml_X1_55 ke_X5_cell (by first | assumption | rfl) (by decide) (by decide) (by simp [Value.category]) (c_cell_in hr (by omega) ?_)
    refine mOk.istore4 dX1_pairOf_21 (by decide) rfl ?_
    refine mOk.aload0n dX1_pairOf_23 rfl ?_
    refine mOk.iload4 dX1_pairOf_24 ?_
    refine mOk.callV1 (M' := mX1_firstOf) dX1_pairOf_26 ml_X1_58 ke_X1_firstOf (by first | assumption | rfl) (by decide) (by decide) (by simp [Value.category]) (c_firstOf hx ?_)
    refine mOk.iload1n dX1_pairOf_29 rfl ?_
    refine mOk.icne (tgt := 46) dX1_pairOf_30 (by decide) (fun c30 => ?_) (fun c30 => ?_)
    · refine mOk.iinc3 dX1_pairOf_46 (mOk.inc1 rfl) (by decide) rfl ?_
      refine mOk.goto (tgt := 2) dX1_pairOf_49 (by decide) ?_
      exact ih (i + 1) _ rfl (by omega) (by rw [hf, fnd, if_neg (mt isPr_iff.mp (fun z => c30 z.1))])
    · refine mOk.aload0n dX1_pairOf_33 rfl ?_
      refine mOk.iload4 dX1_pairOf_34 ?_
      refine mOk.callV1 (M' := mX1_secondOf) dX1_pairOf_36 ml_X1_61 ke_X1_secondOf (by first | assumption | rfl) (by decide) (by decide) (by simp [Value.category]) (c_secondOf hx ?_)
      refine mOk.iload2n dX1_pairOf_39 rfl ?_
      refine mOk.icne (tgt := 46) dX1_pairOf_40 (by decide) (fun c40 => ?_) (fun c40 => ?_)
      · refine mOk.iinc3 dX1_pairOf_46 (mOk.inc1 rfl) (by decide) rfl ?_
        refine mOk.goto (tgt := 2) dX1_pairOf_49 (by decide) ?_
        exact ih (i + 1) _ rfl (by omega) (by rw [hf, fnd, if_neg (mt isPr_iff.mp (fun z => c40 z.2))])
      · refine mOk.iload4 dX1_pairOf_43 ?_
        refine mOk.iret dX1_pairOf_45 rfl ?_
        rw [hf, fnd, if_pos (isPr_iff.mpr ⟨c30, c40⟩)] at hQ
        exact hQ
theorem c_pairOf (hx : Cd I cb T) {a b : Int32} (hQ : Q (some (.int (pairC T a b))) (hS sw I J)) : mCl mX1_pairOf 2 0 0 [.ref cb, .int a, .int b] (hS sw I J) Q := by
  refine mCl.of (by decide) rfl (Nat.le_of_ble_eq_true rfl) ?_
  show mOk _ _ _ _ _ [some (.ref cb), some (.int a), some (.int b), none, none] _ _ _ _ _
  refine mOk.iconst (x := nI 0) dX1_pairOf_0 (by decide) ?_
  refine mOk.istore3n dX1_pairOf_1 rfl (by decide) rfl ?_
  exact l_pairOf hx hQ _ 0 none rfl (Nat.zero_add _) rfl
theorem l_isSec (hx : Cd I cb T) {b : Int32} (hQ : Q (some (.int (if isSec T b = true then 1 else 0))) (hS sw I J)) :
    ∀ (m i : Nat), i + m = (prs T).length → isSec T b = ((prs T).drop i).any (fun c => decide (tS T c = b)) → mOk mX1_isSecondOfPair 2 0 0 2 [some (.ref cb), some (.int b), some (.int (nI i))] [] (hS sw I J) 0 0 Q := by
  obtain ⟨k0, k1, k2, k3, k4, k5, k6, k7, k8⟩ := cdK hx.1
  obtain ⟨p0, p1, p2, p3, p4, p5, p6⟩ := cdP hx.1 sw
  have hr := hx.2.2.2.2
  have hl := hr.2.1
  intro m
  induction m with
  | zero =>
    intro i hi hf
    refine mOk.iload2n dX1_isSecondOfPair_2 rfl ?_
    refine mOk.aload0n dX1_isSecondOfPair_3 rfl ?_
    refine mOk.getR dX1_isSecondOfPair_4 fl_X1_35 (by first | assumption | rfl) (by first | assumption | rfl) ?_
    refine mOk.callV0 (M' := mX5_length) dX1_isSecondOfPair_7 ml_X1_43 ke_X5_length (by first | assumption | rfl) (by decide) (by decide) (by simp [Value.category]) (c_length hr ?_)
    refine mOk.icge (tgt := 37) dX1_isSecondOfPair_10 (by decide) (fun c10 => ?_) (fun c10 => absurd ((nI_le' (by omega) (by omega)).mpr (by omega)) c10)
    refine mOk.iconst (x := 0) dX1_isSecondOfPair_37 (by decide) ?_
    refine mOk.zret dX1_isSecondOfPair_38 rfl (by decide) ?_
    rw [hf, List.drop_of_length_le (by omega)] at hQ
    exact hQ
  | succ m ih =>
    intro i hi hf
    rw [drop_c (by omega), List.any_cons] at hf
    refine mOk.iload2n dX1_isSecondOfPair_2 rfl ?_
    refine mOk.aload0n dX1_isSecondOfPair_3 rfl ?_
    refine mOk.getR dX1_isSecondOfPair_4 fl_X1_35 (by first | assumption | rfl) (by first | assumption | rfl) ?_
    refine mOk.callV0 (M' := mX5_length) dX1_isSecondOfPair_7 ml_X1_43 ke_X5_length (by first | assumption | rfl) (by decide) (by decide) (by simp [Value.category]) (c_length hr ?_)
    refine mOk.icge (tgt := 37) dX1_isSecondOfPair_10 (by decide) (fun c10 => absurd c10 (mt (nI_le' (by omega) (by omega)).mp (by omega))) (fun c10 => ?_)
    refine mOk.aload0n dX1_isSecondOfPair_13 rfl ?_
    refine mOk.aload0n dX1_isSecondOfPair_14 rfl ?_
    refine mOk.getR dX1_isSecondOfPair_15 fl_X1_35 (by first | assumption | rfl) (by first | assumption | rfl) ?_
    refine mOk.iload2n dX1_isSecondOfPair_18 rfl ?_
    refine mOk.callV1 (M' := mX5_cell) dX1_isSecondOfPair_19 ml_X1_55 ke_X5_cell (by first | assumption | rfl) (by decide) (by decide) (by simp [Value.category]) (c_cell_in hr (by omega) ?_)
    refine mOk.callV1 (M' := mX1_secondOf) dX1_isSecondOfPair_22 ml_X1_61 ke_X1_secondOf (by first | assumption | rfl) (by decide) (by decide) (by simp [Value.category]) (c_secondOf hx ?_)
    refine mOk.iload1n dX1_isSecondOfPair_25 rfl ?_
    refine mOk.icne (tgt := 31) dX1_isSecondOfPair_26 (by decide) (fun c26 => ?_) (fun c26 => ?_)
    · refine mOk.iinc2 dX1_isSecondOfPair_31 (mOk.inc1 rfl) (by decide) rfl ?_
      refine mOk.goto (tgt := 2) dX1_isSecondOfPair_34 (by decide) ?_
      exact ih (i + 1) (by omega) (by rw [hf, decide_eq_false c26, Bool.false_or])
    · refine mOk.iconst (x := 1) dX1_isSecondOfPair_29 (by decide) ?_
      refine mOk.zret dX1_isSecondOfPair_30 rfl (by decide) ?_
      rw [hf, decide_eq_true c26, Bool.true_or] at hQ
      exact hQ
theorem c_isSec (hx : Cd I cb T) {b : Int32} (hQ : Q (some (.int (if isSec T b = true then 1 else 0))) (hS sw I J)) : mCl mX1_isSecondOfPair 2 0 0 [.ref cb, .int b] (hS sw I J) Q := by
  refine mCl.of (by decide) rfl (Nat.le_of_ble_eq_true rfl) ?_
  show mOk _ _ _ _ _ [some (.ref cb), some (.int b), none] _ _ _ _ _
  refine mOk.iconst (x := nI 0) dX1_isSecondOfPair_0 (by decide) ?_
  refine mOk.istore2n dX1_isSecondOfPair_1 rfl (by decide) rfl ?_
  exact l_isSec hx hQ _ 0 (Nat.zero_add _) rfl
theorem l_stand (hx : Cd I cb T) {r ra cap : Nat} {xs : List Int32} (hr : Rw I r ra cap xs) {c : Int32} {s : Nat} (hs : s < 100000) (h1 : stn (tP T c) xs s → Q (some (.int 1)) (hS sw I J)) (h0 : ¬ stn (tP T c) xs s → Q (some (.int 0)) (hS sw I J)) :
    ∀ (m i : Nat), i + m = (tP T c).length → (∀ k, k < i → s + k < xs.length ∧ xs.getD (s + k) (-9) = (tP T c).getD k (-9)) → mOk mX1_piecesStandAt 2 0 0 3 [some (.ref cb), some (.int c), some (.ref r), some (.int (nI s)), some (.int (nI i))] [] (hS sw I J) 0 0 Q := by
  obtain ⟨k0, -⟩ := cdK hx.1
  obtain ⟨r0, -⟩ := id hr.1
  have h4 := hx.le4 c
  have b1 := hr.1.2.2.2.1
  have b2 := hr.2.1
  intro m
  induction m with
  | zero =>
    intro i hi hk
    refine mOk.iload4 dX1_piecesStandAt_3 ?_
    refine mOk.aload0n dX1_piecesStandAt_5 rfl ?_
    refine mOk.iload1n dX1_piecesStandAt_6 rfl ?_
    refine mOk.callV1 (M' := mX1_pieceCount) dX1_piecesStandAt_7 ml_X1_64 ke_X1_pieceCount (by first | assumption | rfl) (by decide) (by decide) (by simp [Value.category]) (c_pieceCount hx ?_)
    refine mOk.icge (tgt := 50) dX1_piecesStandAt_10 (by decide) (fun c10 => ?_) (fun c10 => absurd ((nI_le' (by omega) (by omega)).mpr (by omega)) c10)
    refine mOk.iconst (x := 1) dX1_piecesStandAt_50 (by decide) ?_
    refine mOk.zret dX1_piecesStandAt_51 rfl (by decide) ?_
    exact h1 (fun k hk' => hk k (by omega))
  | succ m ih =>
    intro i hi hk
    refine mOk.iload4 dX1_piecesStandAt_3 ?_
    refine mOk.aload0n dX1_piecesStandAt_5 rfl ?_
    refine mOk.iload1n dX1_piecesStandAt_6 rfl ?_
    refine mOk.callV1 (M' := mX1_pieceCount) dX1_piecesStandAt_7 ml_X1_64 ke_X1_pieceCount (by first | assumption | rfl) (by decide) (by decide) (by simp [Value.category]) (c_pieceCount hx ?_)
    refine mOk.icge (tgt := 50) dX1_piecesStandAt_10 (by decide) (fun c10 => absurd c10 (mt (nI_le' (by omega) (by omega)).mp (by omega))) (fun c10 => ?_)
    refine mOk.aload2n dX1_piecesStandAt_13 rfl ?_
    refine mOk.iload3n dX1_piecesStandAt_14 rfl ?_
    refine mOk.iload4 dX1_piecesStandAt_15 ?_
    refine mOk.iadd dX1_piecesStandAt_17 ?_
    refine mOk.top (nI_add s i) ?_
    by_cases hin : s + i < xs.length
    · refine mOk.callV1 (M' := mX5_has) dX1_piecesStandAt_18 ml_X1_67 ke_X5_has (by first | assumption | rfl) (by decide) (by decide) (by simp [Value.category]) (c_has_in hr hin ?_)
      refine mOk.ifeq (tgt := 42) dX1_piecesStandAt_21 (by decide) (fun c21 => absurd c21 ((by decide))) (fun c21 => ?_)
      refine mOk.aload2n dX1_piecesStandAt_24 rfl ?_
      refine mOk.iload3n dX1_piecesStandAt_25 rfl ?_
      refine mOk.iload4 dX1_piecesStandAt_26 ?_
      refine mOk.iadd dX1_piecesStandAt_28 ?_
      refine mOk.top (nI_add s i) ?_
      refine mOk.callV1 (M' := mX5_cell) dX1_piecesStandAt_29 ml_X1_55 ke_X5_cell (by first | assumption | rfl) (by decide) (by decide) (by simp [Value.category]) (c_cell_in hr hin ?_)
      refine mOk.aload0n dX1_piecesStandAt_32 rfl ?_
      refine mOk.iload1n dX1_piecesStandAt_33 rfl ?_
      refine mOk.iload4 dX1_piecesStandAt_34 ?_
      refine mOk.callV2 (M' := mX1_piece) dX1_piecesStandAt_36 ml_X1_70 ke_X1_piece (by first | assumption | rfl) (by decide) (by decide) (by simp [Value.category]) (c_piece hx (by omega) ?_)
      refine mOk.iceq (tgt := 44) dX1_piecesStandAt_39 (by decide) (fun c39 => ?_) (fun c39 => ?_)
      · refine mOk.iinc4 dX1_piecesStandAt_44 (mOk.inc1 rfl) (by decide) rfl ?_
        refine mOk.goto (tgt := 3) dX1_piecesStandAt_47 (by decide) ?_
        exact ih (i + 1) (by omega) (fun k hk' => by
          rcases Nat.lt_or_ge k i with q | q
          · exact hk k q
          · rw [show k = i by omega]; exact ⟨hin, c39⟩)
      · refine mOk.iconst (x := 0) dX1_piecesStandAt_42 (by decide) ?_
        refine mOk.zret dX1_piecesStandAt_43 rfl (by decide) ?_
        exact h0 (fun z => c39 (z i (by omega)).2)
    · refine mOk.callV1 (M' := mX5_has) dX1_piecesStandAt_18 ml_X1_67 ke_X5_has (by first | assumption | rfl) (by decide) (by decide) (by simp [Value.category]) (c_has_out hr (Or.inr ((nI_leI (by omega) (by omega)).mpr (by omega))) ?_)
      refine mOk.ifeq (tgt := 42) dX1_piecesStandAt_21 (by decide) (fun c21 => ?_) (fun c21 => absurd (rfl) c21)
      refine mOk.iconst (x := 0) dX1_piecesStandAt_42 (by decide) ?_
      refine mOk.zret dX1_piecesStandAt_43 rfl (by decide) ?_
      exact h0 (fun z => hin (z i (by omega)).1)
theorem c_stand (hx : Cd I cb T) {r ra cap : Nat} {xs : List Int32} (hr : Rw I r ra cap xs) {c : Int32} {s : Nat} (hs : s < 100000) (h1 : stn (tP T c) xs s → Q (some (.int 1)) (hS sw I J)) (h0 : ¬ stn (tP T c) xs s → Q (some (.int 0)) (hS sw I J)) : mCl mX1_piecesStandAt 2 0 0 [.ref cb, .int c, .ref r, .int (nI s)] (hS sw I J) Q := by
  refine mCl.of (by decide) rfl (Nat.le_of_ble_eq_true rfl) ?_
  show mOk _ _ _ _ _ [some (.ref cb), some (.int c), some (.ref r), some (.int (nI s)), none] _ _ _ _ _
  refine mOk.iconst (x := nI 0) dX1_piecesStandAt_0 (by decide) ?_
  refine mOk.istore4 dX1_piecesStandAt_1 (by decide) rfl ?_
  exact l_stand hx hr hs h1 h0 _ 0 (Nat.zero_add _) (fun k h => absurd h (Nat.not_lt_zero _))
theorem take_T {T : List CR} {i : Nat} {q : CR} (h : T[i]? = some q) : T.take (i + 1) = T.take i ++ [q] := by
  rw [List.take_succ, h]; rfl
theorem cntK_le (T : List CR) (kd : Int32) : cntK T kd ≤ T.length := List.countP_le_length
theorem l_countKind (hx : Cd I cb T) {kd : Int32} (hQ : Q (some (.int (nI (cntK T kd)))) (hS sw I J)) :
    ∀ (m i : Nat), i + m = T.length → mOk mX1_countKind 2 0 0 4 [some (.ref cb), some (.int kd), some (.int (nI (cntK (T.take i) kd))), some (.int (nI i))] [] (hS sw I J) 0 0 Q := by
  obtain ⟨k0, k1, k2, k3, k4, k5, k6, k7, k8⟩ := cdK hx.1
  have hl := hx.2.1
  intro m
  induction m with
  | zero =>
    intro i hi
    refine mOk.iload3n dX1_countKind_4 rfl ?_
    refine mOk.aload0n dX1_countKind_5 rfl ?_
    refine mOk.getIv dX1_countKind_6 fl_X1_39 (by first | assumption | rfl) hx.2.2.1 ?_
    refine mOk.icge (tgt := 30) dX1_countKind_9 (by decide) (fun c9 => ?_) (fun c9 => absurd ((nI_le' (by omega) (by omega)).mpr (by omega)) c9)
    refine mOk.iload2n dX1_countKind_30 rfl ?_
    refine mOk.iret dX1_countKind_31 rfl ?_
    rw [List.take_of_length_le (by omega)]
    exact hQ
  | succ m ih =>
    intro i hi
    obtain ⟨q, hq, hg⟩ := tG_at (show i < T.length by omega) (by omega)
    have hk : tK T (nI i) = q.1 := by unfold tK; rw [hg]
    have ht : cntK (T.take (i + 1)) kd = cntK (T.take i) kd + (if q.1 = kd then 1 else 0) := by
      unfold cntK
      rw [take_T hq, List.countP_append]
      by_cases h : q.1 = kd <;> simp [h]
    refine mOk.iload3n dX1_countKind_4 rfl ?_
    refine mOk.aload0n dX1_countKind_5 rfl ?_
    refine mOk.getIv dX1_countKind_6 fl_X1_39 (by first | assumption | rfl) hx.2.2.1 ?_
    refine mOk.icge (tgt := 30) dX1_countKind_9 (by decide) (fun c9 => absurd c9 (mt (nI_le' (by omega) (by omega)).mp (by omega))) (fun c9 => ?_)
    refine mOk.aload0n dX1_countKind_12 rfl ?_
    refine mOk.iload3n dX1_countKind_13 rfl ?_
    refine mOk.callV1 (M' := mX1_kindOf) dX1_countKind_14 ml_X1_74 ke_X1_kindOf (by first | assumption | rfl) (by decide) (by decide) (by simp [Value.category]) (c_kindOf hx ?_)
    rw [hk]
    have IH := ih (i + 1) (by omega)
    rw [ht] at IH
    refine mOk.iload1n dX1_countKind_17 rfl ?_
    refine mOk.icne (tgt := 24) dX1_countKind_18 (by decide) (fun c18 => ?_) (fun c18 => ?_)
    · rw [if_neg c18] at IH
      refine mOk.iinc3 dX1_countKind_24 (mOk.inc1 rfl) (by decide) rfl ?_
      refine mOk.goto (tgt := 4) dX1_countKind_27 (by decide) ?_
      exact IH
    · rw [if_pos c18] at IH
      refine mOk.iinc2 dX1_countKind_21 (mOk.inc1 rfl) (by decide) rfl ?_
      refine mOk.iinc3 dX1_countKind_24 (mOk.inc1 rfl) (by decide) rfl ?_
      refine mOk.goto (tgt := 4) dX1_countKind_27 (by decide) ?_
      exact IH
theorem c_countKind (hx : Cd I cb T) {kd : Int32} (hQ : Q (some (.int (nI (cntK T kd)))) (hS sw I J)) : mCl mX1_countKind 2 0 0 [.ref cb, .int kd] (hS sw I J) Q := by
  refine mCl.of (by decide) rfl (Nat.le_of_ble_eq_true rfl) ?_
  show mOk _ _ _ _ _ [some (.ref cb), some (.int kd), none, none] _ _ _ _ _
  refine mOk.iconst (x := nI 0) dX1_countKind_0 (by decide) ?_
  refine mOk.istore2n dX1_countKind_1 rfl (by decide) rfl ?_
  refine mOk.iconst (x := nI 0) dX1_countKind_2 (by decide) ?_
  refine mOk.istore3n dX1_countKind_3 rfl (by decide) rfl ?_
  exact l_countKind hx hQ _ 0 (Nat.zero_add _)
theorem l_countMarks (hx : Cd I cb T) (hQ : Q (some (.int (nI (cntM T)))) (hS sw I J)) :
    ∀ (m i : Nat), i + m = T.length → mOk mX1_countMarks 3 0 0 4 [some (.ref cb), some (.int (nI (cntM (T.take i)))), some (.int (nI i))] [] (hS sw I J) 0 0 Q := by
  obtain ⟨k0, k1, k2, k3, k4, k5, k6, k7, k8⟩ := cdK hx.1
  have hl := hx.2.1
  intro m
  induction m with
  | zero =>
    intro i hi
    refine mOk.iload2n dX1_countMarks_4 rfl ?_
    refine mOk.aload0n dX1_countMarks_5 rfl ?_
    refine mOk.getIv dX1_countMarks_6 fl_X1_39 (by first | assumption | rfl) hx.2.2.1 ?_
    refine mOk.icge (tgt := 29) dX1_countMarks_9 (by decide) (fun c9 => ?_) (fun c9 => absurd ((nI_le' (by omega) (by omega)).mpr (by omega)) c9)
    refine mOk.iload1n dX1_countMarks_29 rfl ?_
    refine mOk.iret dX1_countMarks_30 rfl ?_
    rw [List.take_of_length_le (by omega)]
    exact hQ
  | succ m ih =>
    intro i hi
    obtain ⟨q, hq, hg⟩ := tG_at (show i < T.length by omega) (by omega)
    have hk : tC T (nI i) = q.2.1 := by unfold tC; rw [hg]
    have ht : cntM (T.take (i + 1)) = cntM (T.take i) + (if q.2.1 = 0 then 0 else 1) := by
      unfold cntM
      rw [take_T hq, List.countP_append]
      by_cases h : q.2.1 = 0 <;> simp [h]
    have IH := ih (i + 1) (by omega)
    rw [ht] at IH
    refine mOk.iload2n dX1_countMarks_4 rfl ?_
    refine mOk.aload0n dX1_countMarks_5 rfl ?_
    refine mOk.getIv dX1_countMarks_6 fl_X1_39 (by first | assumption | rfl) hx.2.2.1 ?_
    refine mOk.icge (tgt := 29) dX1_countMarks_9 (by decide) (fun c9 => absurd c9 (mt (nI_le' (by omega) (by omega)).mp (by omega))) (fun c9 => ?_)
    refine mOk.aload0n dX1_countMarks_12 rfl ?_
    refine mOk.iload2n dX1_countMarks_13 rfl ?_
    refine mOk.callV1 (M' := mX1_isBase) dX1_countMarks_14 ml_X1_77 ke_X1_isBase (by first | assumption | rfl) (by decide) (by decide) (by simp [Value.category]) (c_isBase hx ?_)
    rw [hk]
    by_cases h0 : q.2.1 = 0
    · rw [if_pos h0] at IH ⊢
      refine mOk.ifne (tgt := 23) dX1_countMarks_17 (by decide) (fun c17 => ?_) (fun c17 => absurd c17 ((by decide)))
      refine mOk.iinc2 dX1_countMarks_23 (mOk.inc1 rfl) (by decide) rfl ?_
      refine mOk.goto (tgt := 4) dX1_countMarks_26 (by decide) ?_
      exact IH
    · rw [if_neg h0] at IH ⊢
      refine mOk.ifne (tgt := 23) dX1_countMarks_17 (by decide) (fun c17 => absurd (rfl) c17) (fun c17 => ?_)
      refine mOk.iinc1 dX1_countMarks_20 (mOk.inc1 rfl) (by decide) rfl ?_
      refine mOk.iinc2 dX1_countMarks_23 (mOk.inc1 rfl) (by decide) rfl ?_
      refine mOk.goto (tgt := 4) dX1_countMarks_26 (by decide) ?_
      exact IH
theorem c_countMarks (hx : Cd I cb T) (hQ : Q (some (.int (nI (cntM T)))) (hS sw I J)) : mCl mX1_countMarks 3 0 0 [.ref cb] (hS sw I J) Q := by
  refine mCl.of (by decide) rfl (Nat.le_of_ble_eq_true rfl) ?_
  show mOk _ _ _ _ _ [some (.ref cb), none, none] _ _ _ _ _
  refine mOk.iconst (x := nI 0) dX1_countMarks_0 (by decide) ?_
  refine mOk.istore1n dX1_countMarks_1 rfl (by decide) rfl ?_
  refine mOk.iconst (x := nI 0) dX1_countMarks_2 (by decide) ?_
  refine mOk.istore2n dX1_countMarks_3 rfl (by decide) rfl ?_
  exact l_countMarks hx hQ _ 0 (Nat.zero_add _)
theorem c_mayFirst (hx : Cd I cb T) {a : Int32} (h1 : mF T a → Q (some (.int 1)) (hS sw I J)) (h0 : ¬ mF T a → Q (some (.int 0)) (hS sw I J)) : mCl mX1_mayBeFirst 2 0 0 [.ref cb, .int a] (hS sw I J) Q := by
  obtain ⟨k0, -⟩ := cdK hx.1
  have h4 := hx.le4 a
  refine mCl.of (by decide) rfl (Nat.le_of_ble_eq_true rfl) ?_
  show mOk _ _ _ _ _ [some (.ref cb), some (.int a), none, none] _ _ _ _ _
  refine mOk.aload0n dX1_mayBeFirst_0 rfl ?_
  refine mOk.iload1n dX1_mayBeFirst_1 rfl ?_
  refine mOk.callV1 (M' := mX1_kindOf) dX1_mayBeFirst_2 ml_X1_74 ke_X1_kindOf (by first | assumption | rfl) (by decide) (by decide) (by simp [Value.category]) (c_kindOf hx ?_)
  refine mOk.istore2n dX1_mayBeFirst_5 rfl (by decide) rfl ?_
  refine mOk.aload0n dX1_mayBeFirst_6 rfl ?_
  refine mOk.iload1n dX1_mayBeFirst_7 rfl ?_
  refine mOk.callV1 (M' := mX1_classOf) dX1_mayBeFirst_8 ml_X1_51 ke_X1_classOf (by first | assumption | rfl) (by decide) (by decide) (by simp [Value.category]) (c_classOf hx ?_)
  have key0 : ¬ (tC T a = 0 ∧ (tK T a = 0 ∨ tK T a = 1)) → mOk mX1_mayBeFirst 2 0 0 27 [some (.ref cb), some (.int a), some (.int (tK T a)), none] [] (hS sw I J) 0 0 Q := fun hn => by
    refine mOk.iconst (x := 0) dX1_mayBeFirst_27 (by decide) ?_
    refine mOk.istore3n dX1_mayBeFirst_28 rfl (by decide) rfl ?_
    refine mOk.iload3n dX1_mayBeFirst_29 rfl ?_
    refine mOk.ifeq (tgt := 46) dX1_mayBeFirst_30 (by decide) (fun c30 => ?_) (fun c30 => absurd (rfl) c30)
    refine mOk.iconst (x := 0) dX1_mayBeFirst_46 (by decide) ?_
    refine mOk.zret dX1_mayBeFirst_47 rfl (by decide) ?_
    exact h0 (fun z => hn z.1)
  have key1 : (tC T a = 0 ∧ (tK T a = 0 ∨ tK T a = 1)) → mOk mX1_mayBeFirst 2 0 0 23 [some (.ref cb), some (.int a), some (.int (tK T a)), none] [] (hS sw I J) 0 0 Q := fun hn => by
    refine mOk.iconst (x := 1) dX1_mayBeFirst_23 (by decide) ?_
    refine mOk.goto (tgt := 28) dX1_mayBeFirst_24 (by decide) ?_
    refine mOk.istore3n dX1_mayBeFirst_28 rfl (by decide) rfl ?_
    refine mOk.iload3n dX1_mayBeFirst_29 rfl ?_
    refine mOk.ifeq (tgt := 46) dX1_mayBeFirst_30 (by decide) (fun c30 => absurd c30 ((by decide))) (fun c30 => ?_)
    refine mOk.aload0n dX1_mayBeFirst_33 rfl ?_
    refine mOk.iload1n dX1_mayBeFirst_34 rfl ?_
    refine mOk.callV1 (M' := mX1_pieceCount) dX1_mayBeFirst_35 ml_X1_64 ke_X1_pieceCount (by first | assumption | rfl) (by decide) (by decide) (by simp [Value.category]) (c_pieceCount hx ?_)
    refine mOk.iconst (x := nI 4) dX1_mayBeFirst_38 (by decide) ?_
    refine mOk.icge (tgt := 46) dX1_mayBeFirst_39 (by decide) (fun c39 => ?_) (fun c39 => ?_)
    · refine mOk.iconst (x := 0) dX1_mayBeFirst_46 (by decide) ?_
      refine mOk.zret dX1_mayBeFirst_47 rfl (by decide) ?_
      have := (nI_le' (by omega) (by omega)).mp c39
      exact h0 (fun z => by have := z.2; omega)
    · refine mOk.iconst (x := 1) dX1_mayBeFirst_42 (by decide) ?_
      refine mOk.goto (tgt := 47) dX1_mayBeFirst_43 (by decide) ?_
      refine mOk.zret dX1_mayBeFirst_47 rfl (by decide) ?_
      have := mt (nI_le' (by omega) (by omega)).mpr c39
      exact h1 ⟨hn, by omega⟩
  refine mOk.ifne (tgt := 27) dX1_mayBeFirst_11 (by decide) (fun c11 => ?_) (fun c11 => ?_)
  · exact key0 (fun z => c11 z.1)
  · refine mOk.iload2n dX1_mayBeFirst_14 rfl ?_
    refine mOk.ifeq (tgt := 23) dX1_mayBeFirst_15 (by decide) (fun c15 => ?_) (fun c15 => ?_)
    · exact key1 ⟨c11, Or.inl c15⟩
    · refine mOk.iload2n dX1_mayBeFirst_18 rfl ?_
      refine mOk.iconst (x := 1) dX1_mayBeFirst_19 (by decide) ?_
      refine mOk.icne (tgt := 27) dX1_mayBeFirst_20 (by decide) (fun c20 => ?_) (fun c20 => ?_)
      · exact key0 (fun z => z.2.elim c15 c20)
      · exact key1 ⟨c11, Or.inr c20⟩
/-- b may stand behind a -/
def mS (T : List CR) (kd a b : Int32) : Prop := tK T b = 0 ∧ (kd ≠ 1 ∨ tC T b = 0 ∨ ¬ tC T b < tC T ((tP T a).getD ((tP T a).length - 1) (-9)))
theorem c_maySecond (hx : Cd I cb T) {kd a b : Int32} (ha : 0 < (tP T a).length) (h1 : mS T kd a b → Q (some (.int 1)) (hS sw I J)) (h0 : ¬ mS T kd a b → Q (some (.int 0)) (hS sw I J)) : mCl mX1_mayBeSecond 2 0 0 [.ref cb, .int kd, .int a, .int b] (hS sw I J) Q := by
  obtain ⟨k0, -⟩ := cdK hx.1
  have h4 := hx.le4 a
  refine mCl.of (by decide) rfl (Nat.le_of_ble_eq_true rfl) ?_
  show mOk _ _ _ _ _ [some (.ref cb), some (.int kd), some (.int a), some (.int b), none, none] _ _ _ _ _
  refine mOk.aload0n dX1_mayBeSecond_0 rfl ?_
  refine mOk.iload3n dX1_mayBeSecond_1 rfl ?_
  refine mOk.callV1 (M' := mX1_kindOf) dX1_mayBeSecond_2 ml_X1_74 ke_X1_kindOf (by first | assumption | rfl) (by decide) (by decide) (by simp [Value.category]) (c_kindOf hx ?_)
  refine mOk.ifeq (tgt := 10) dX1_mayBeSecond_5 (by decide) (fun c5 => ?_) (fun c5 => ?_)
  · refine mOk.aload0n dX1_mayBeSecond_10 rfl ?_
    refine mOk.iload3n dX1_mayBeSecond_11 rfl ?_
    refine mOk.callV1 (M' := mX1_classOf) dX1_mayBeSecond_12 ml_X1_51 ke_X1_classOf (by first | assumption | rfl) (by decide) (by decide) (by simp [Value.category]) (c_classOf hx ?_)
    refine mOk.istore4 dX1_mayBeSecond_15 (by decide) rfl ?_
    refine mOk.aload0n dX1_mayBeSecond_17 rfl ?_
    refine mOk.iload2n dX1_mayBeSecond_18 rfl ?_
    refine mOk.aload0n dX1_mayBeSecond_19 rfl ?_
    refine mOk.iload2n dX1_mayBeSecond_20 rfl ?_
    refine mOk.callV1 (M' := mX1_pieceCount) dX1_mayBeSecond_21 ml_X1_64 ke_X1_pieceCount (by first | assumption | rfl) (by decide) (by decide) (by simp [Value.category]) (c_pieceCount hx ?_)
    refine mOk.iconst (x := nI 1) dX1_mayBeSecond_24 (by decide) ?_
    refine mOk.isub dX1_mayBeSecond_25 ?_
    refine mOk.top (pk_sub (a := (tP T a).length) (b := 1) (by omega)) ?_
    refine mOk.callV2 (M' := mX1_piece) dX1_mayBeSecond_26 ml_X1_70 ke_X1_piece (by first | assumption | rfl) (by decide) (by decide) (by simp [Value.category]) (c_piece hx (by omega) ?_)
    refine mOk.istore5 dX1_mayBeSecond_29 (by decide) rfl ?_
    refine mOk.iload1n dX1_mayBeSecond_31 rfl ?_
    refine mOk.iconst (x := 1) dX1_mayBeSecond_32 (by decide) ?_
    refine mOk.icne (tgt := 52) dX1_mayBeSecond_33 (by decide) (fun c33 => ?_) (fun c33 => ?_)
    · refine mOk.iconst (x := 1) dX1_mayBeSecond_52 (by decide) ?_
      refine mOk.goto (tgt := 57) dX1_mayBeSecond_53 (by decide) ?_
      refine mOk.zret dX1_mayBeSecond_57 rfl (by decide) ?_
      exact h1 ⟨c5, Or.inl c33⟩
    · refine mOk.iload4 dX1_mayBeSecond_36 ?_
      refine mOk.ifeq (tgt := 52) dX1_mayBeSecond_38 (by decide) (fun c38 => ?_) (fun c38 => ?_)
      · refine mOk.iconst (x := 1) dX1_mayBeSecond_52 (by decide) ?_
        refine mOk.goto (tgt := 57) dX1_mayBeSecond_53 (by decide) ?_
        refine mOk.zret dX1_mayBeSecond_57 rfl (by decide) ?_
        exact h1 ⟨c5, Or.inr (Or.inl c38)⟩
      · refine mOk.iload4 dX1_mayBeSecond_41 ?_
        refine mOk.aload0n dX1_mayBeSecond_43 rfl ?_
        refine mOk.iload5 dX1_mayBeSecond_44 ?_
        refine mOk.callV1 (M' := mX1_classOf) dX1_mayBeSecond_46 ml_X1_51 ke_X1_classOf (by first | assumption | rfl) (by decide) (by decide) (by simp [Value.category]) (c_classOf hx ?_)
        refine mOk.iclt (tgt := 56) dX1_mayBeSecond_49 (by decide) (fun c49 => ?_) (fun c49 => ?_)
        · refine mOk.iconst (x := 0) dX1_mayBeSecond_56 (by decide) ?_
          refine mOk.zret dX1_mayBeSecond_57 rfl (by decide) ?_
          exact h0 (fun z => z.2.elim (fun w => w c33) (fun w => w.elim c38 (fun v => v c49)))
        · refine mOk.iconst (x := 1) dX1_mayBeSecond_52 (by decide) ?_
          refine mOk.goto (tgt := 57) dX1_mayBeSecond_53 (by decide) ?_
          refine mOk.zret dX1_mayBeSecond_57 rfl (by decide) ?_
          exact h1 ⟨c5, Or.inr (Or.inr c49)⟩
  · refine mOk.iconst (x := 0) dX1_mayBeSecond_8 (by decide) ?_
    refine mOk.zret dX1_mayBeSecond_9 rfl (by decide) ?_
    exact h0 (fun z => c5 z.1)
end CODES2
end
section
/-! ===== Codes: a code comes ===== -/
def cS (cb : Nat) : List Nat := [cb, cb + 1, cb + 2, cb + 3, cb + 4, cb + 5, cb + 6, cb + 7, cb + 8]
theorem Cd.eq {I I' : Nat → Nat → Int32} {cb : Nat} {T : List CR} (hx : Cd I cb T) (h0 : I' cb 7 = I cb 7) (h1 : ∀ i j, 1 ≤ i → i ≤ 5 → j < T.length → I' (cb + i) j = I (cb + i) j) (h6 : ∀ j, j < T.length * 4 → I' (cb + 6) j = I (cb + 6) j) (h7 : I' (cb + 7) = I (cb + 7)) (h8 : I' (cb + 8) = I (cb + 8)) : Cd I' cb T := by
  obtain ⟨a1, a2, a3, a4, a5⟩ := hx
  refine ⟨a1, a2, h0.trans a3, fun j q hq => ?_, a5.1, a5.2.1, by rw [h7]; exact a5.2.2.1, by rw [h8]; exact a5.2.2.2⟩
  have hj : j < T.length := (List.getElem?_eq_some_iff.mp hq).1
  obtain ⟨b1, b2, b3, b4, b5, b6, b7⟩ := a4 j q hq
  refine ⟨(h1 1 j (by omega) (by omega) hj).trans b1, (h1 2 j (by omega) (by omega) hj).trans b2, (h1 3 j (by omega) (by omega) hj).trans b3, (h1 4 j (by omega) (by omega) hj).trans b4, (h1 5 j (by omega) (by omega) hj).trans b5, b6, fun k p hk => (h6 _ ?_).trans (b7 k p hk)⟩
  have : k < q.2.2.2.2.length := (List.getElem?_eq_some_iff.mp hk).1
  omega
theorem Cd.off {S : List Nat} {I I' : Nat → Nat → Int32} {cb : Nat} {T : List CR} (hx : Cd I cb T) (ho : Off S I I') (hs : ∀ a ∈ cS cb, a ∉ S) : Cd I' cb T := by
  have h : ∀ a ∈ cS cb, I' a = I a := fun a ha => ho a (hs a ha)
  refine hx.eq ?_ (fun i j h1 h2 _ => ?_) (fun j _ => ?_) ?_ ?_
  · rw [h cb (by simp [cS])]
  · rw [h (cb + i) (by simp [cS]; omega)]
  · rw [h (cb + 6) (by simp [cS])]
  · exact h _ (by simp [cS])
  · exact h _ (by simp [cS])
/-- a code that is being added, behind those of T -/
def Pn (I : Nat → Nat → Int32) (cb : Nat) (T : List CR) (q : CR) : Prop := Cd I cb T ∧ T.length < 24 ∧ I (cb + 1) T.length = q.1 ∧ I (cb + 2) T.length = q.2.1 ∧ I (cb + 3) T.length = q.2.2.1 ∧ I (cb + 4) T.length = q.2.2.2.1 ∧ I (cb + 5) T.length = nI q.2.2.2.2.length ∧ q.2.2.2.2.length ≤ 4 ∧ ∀ k p, q.2.2.2.2[k]? = some p → I (cb + 6) (T.length * 4 + k) = p
section CODES3
variable {sw : Bool} {I : Nat → Nat → Int32} {J : Nat → Nat → Int64} {cb : Nat} {T : List CR} {Q : Option Value → mi_H → Prop}
theorem c_addPiece {q : CR} (hx : Pn I cb T q) (h4 : q.2.2.2.2.length < 4) {p : Int32} (hQ : ∀ I', Pn I' cb T (q.1, q.2.1, q.2.2.1, q.2.2.2.1, q.2.2.2.2 ++ [p]) → Off (cS cb) I I' → Q none (hS sw I' J)) : mCl mX1_addPiece 0 0 0 [.ref cb, .int p] (hS sw I J) Q := by
  obtain ⟨hc, hn, e1, e2, e3, e4, e5, e6, e7⟩ := hx
  obtain ⟨k0, k1, k2, k3, k4, k5, k6, k7, k8⟩ := cdK hc.1
  obtain ⟨p0, p1, p2, p3, p4, p5, p6⟩ := cdP hc.1 sw
  have hsz := hc.2.2.1
  refine mCl.of (by decide) rfl (Nat.le_of_ble_eq_true rfl) ?_
  show mOk _ _ _ _ _ [some (.ref cb), some (.int p), none] _ _ _ _ _
  refine mOk.aload0n dX1_addPiece_0 rfl ?_
  refine mOk.getIv dX1_addPiece_1 fl_X1_39 (by first | assumption | rfl) hsz ?_
  refine mOk.iflt (tgt := 16) dX1_addPiece_4 (by decide) (fun c4 => absurd c4 (nI_neg' (by omega))) (fun c4 => ?_)
  refine mOk.aload0n dX1_addPiece_7 rfl ?_
  refine mOk.getIv dX1_addPiece_8 fl_X1_39 (by first | assumption | rfl) hsz ?_
  refine mOk.bipush (x := nI 24) dX1_addPiece_11 (by decide) ?_
  refine mOk.iclt (tgt := 17) dX1_addPiece_13 (by decide) (fun c13 => ?_) (fun c13 => absurd ((nI_lt' (by omega) (by omega)).mpr hn) c13)
  refine mOk.aload0n dX1_addPiece_17 rfl ?_
  refine mOk.getR dX1_addPiece_18 fl_X1_24 (by first | assumption | rfl) (by first | assumption | rfl) ?_
  refine mOk.aload0n dX1_addPiece_21 rfl ?_
  refine mOk.getIv dX1_addPiece_22 fl_X1_39 (by first | assumption | rfl) hsz ?_
  refine mOk.ialdv dX1_addPiece_25 (by first | assumption | rfl) rfl (by omega) (by first | assumption | decide | omega) e5 ?_
  refine mOk.istore2n dX1_addPiece_26 rfl (by decide) rfl ?_
  refine mOk.iload2n dX1_addPiece_27 rfl ?_
  refine mOk.iflt (tgt := 36) dX1_addPiece_28 (by decide) (fun c28 => absurd c28 (nI_neg' (by omega))) (fun c28 => ?_)
  refine mOk.iload2n dX1_addPiece_31 rfl ?_
  refine mOk.iconst (x := nI 4) dX1_addPiece_32 (by decide) ?_
  refine mOk.iclt (tgt := 37) dX1_addPiece_33 (by decide) (fun c33 => ?_) (fun c33 => absurd ((nI_lt' (by omega) (by omega)).mpr h4) c33)
  refine mOk.aload0n dX1_addPiece_37 rfl ?_
  refine mOk.getR dX1_addPiece_38 fl_X1_27 (by first | assumption | rfl) (by first | assumption | rfl) ?_
  refine mOk.aload0n dX1_addPiece_41 rfl ?_
  refine mOk.getIv dX1_addPiece_42 fl_X1_39 (by first | assumption | rfl) hsz ?_
  refine mOk.iconst (x := nI 4) dX1_addPiece_45 (by decide) ?_
  refine mOk.imul dX1_addPiece_46 ?_
  refine mOk.top (pk_mul T.length 4) ?_
  refine mOk.iload2n dX1_addPiece_47 rfl ?_
  refine mOk.iadd dX1_addPiece_48 ?_
  refine mOk.top (nI_add (T.length * 4) q.2.2.2.2.length) ?_
  refine mOk.iload1n dX1_addPiece_49 rfl ?_
  refine mOk.iastt dX1_addPiece_50 (by first | assumption | rfl) rfl (by omega) (by first | assumption | decide | omega) ?_
  refine mOk.aload0n dX1_addPiece_51 rfl ?_
  refine mOk.getR dX1_addPiece_52 fl_X1_24 (by first | assumption | rfl) (by first | assumption | rfl) ?_
  refine mOk.aload0n dX1_addPiece_55 rfl ?_
  refine mOk.getIv dX1_addPiece_56 fl_X1_39 (by first | assumption | rfl) ((congrFun (wI_c (by omega)) 7).trans hsz) ?_
  refine mOk.iload2n dX1_addPiece_59 rfl ?_
  refine mOk.iconst (x := nI 1) dX1_addPiece_60 (by decide) ?_
  refine mOk.iadd dX1_addPiece_61 ?_
  refine mOk.top (nI_1 q.2.2.2.2.length) ?_
  refine mOk.iastt dX1_addPiece_62 (by first | assumption | rfl) rfl (by omega) (by first | assumption | decide | omega) ?_
  refine mOk.vret dX1_addPiece_63 rfl (by decide) ?_
  have g : ∀ a j, a ≠ cb + 5 → a ≠ cb + 6 → wI (wI I (cb + 6) (T.length * 4 + q.2.2.2.2.length) p) (cb + 5) T.length (nI (q.2.2.2.2.length + 1)) a j = I a j := fun a j h1 h2 => by rw [wI_c h1, wI_c h2]
  refine hQ _ ⟨hc.eq (g _ _ (by omega) (by omega)) (fun i j h1 h2 hj => ?_) (fun j hj => ?_) ?_ ?_, hn, (g _ _ (by omega) (by omega)).trans e1, (g _ _ (by omega) (by omega)).trans e2, (g _ _ (by omega) (by omega)).trans e3, (g _ _ (by omega) (by omega)).trans e4, ?_, by simp; omega, fun k p' hk => ?_⟩ ?_
  · rw [wI_j (by omega), wI_c (by omega)]
  · rw [wI_c (by omega), wI_j (by omega)]
  · rw [wI_c (by omega), wI_c (by omega)]
  · rw [wI_c (by omega), wI_c (by omega)]
  · rw [wI_s]; simp
  · rw [wI_c (by omega)]
    rcases Nat.lt_or_ge k q.2.2.2.2.length with z | z
    · rw [List.getElem?_append_left z] at hk
      rw [wI_j (by omega)]
      exact e7 k p' hk
    · rw [List.getElem?_append_right z] at hk
      have hj : k - q.2.2.2.2.length < 1 := (List.getElem?_eq_some_iff.mp hk).1
      rw [show k = q.2.2.2.2.length by omega] at hk ⊢
      simp at hk
      rw [wI_s, hk]
  · exact (Off.w (a := cb + 6) (by simp [cS])).tr (Off.w (by simp [cS]))
theorem l_addPieces {I0 : Nat → Nat → Int32} {q : CR} {c : Int32} (h4 : q.2.2.2.2.length + (tP T c).length ≤ 4) (hQ : ∀ I', Pn I' cb T (q.1, q.2.1, q.2.2.1, q.2.2.2.1, q.2.2.2.2 ++ tP T c) → Off (cS cb) I0 I' → Q none (hS sw I' J)) :
    ∀ (m i : Nat) (I : Nat → Nat → Int32), i + m = (tP T c).length → Pn I cb T (q.1, q.2.1, q.2.2.1, q.2.2.2.1, q.2.2.2.2 ++ (tP T c).take i) → Off (cS cb) I0 I → mOk mX1_addPiecesOf 2 0 0 2 [some (.ref cb), some (.int c), some (.int (nI i))] [] (hS sw I J) 0 0 Q := by
  intro m
  induction m with
  | zero =>
    intro i I hi hx ho
    obtain ⟨k0, -⟩ := cdK hx.1.1
    refine mOk.iload2n dX1_addPiecesOf_2 rfl ?_
    refine mOk.aload0n dX1_addPiecesOf_3 rfl ?_
    refine mOk.iload1n dX1_addPiecesOf_4 rfl ?_
    refine mOk.callV1 (M' := mX1_pieceCount) dX1_addPiecesOf_5 ml_X1_64 ke_X1_pieceCount (by first | assumption | rfl) (by decide) (by decide) (by simp [Value.category]) (c_pieceCount hx.1 ?_)
    refine mOk.icge (tgt := 27) dX1_addPiecesOf_8 (by decide) (fun c8 => ?_) (fun c8 => absurd ((nI_le' (by omega) (by omega)).mpr (by omega)) c8)
    refine mOk.vret dX1_addPiecesOf_27 rfl (by decide) ?_
    rw [List.take_of_length_le (by omega)] at hx
    exact hQ _ hx ho
  | succ m ih =>
    intro i I hi hx ho
    obtain ⟨k0, -⟩ := cdK hx.1.1
    refine mOk.iload2n dX1_addPiecesOf_2 rfl ?_
    refine mOk.aload0n dX1_addPiecesOf_3 rfl ?_
    refine mOk.iload1n dX1_addPiecesOf_4 rfl ?_
    refine mOk.callV1 (M' := mX1_pieceCount) dX1_addPiecesOf_5 ml_X1_64 ke_X1_pieceCount (by first | assumption | rfl) (by decide) (by decide) (by simp [Value.category]) (c_pieceCount hx.1 ?_)
    refine mOk.icge (tgt := 27) dX1_addPiecesOf_8 (by decide) (fun c8 => absurd c8 (mt (nI_le' (by omega) (by omega)).mp (by omega))) (fun c8 => ?_)
    refine mOk.aload0n dX1_addPiecesOf_11 rfl ?_
    refine mOk.aload0n dX1_addPiecesOf_12 rfl ?_
    refine mOk.iload1n dX1_addPiecesOf_13 rfl ?_
    refine mOk.iload2n dX1_addPiecesOf_14 rfl ?_
    refine mOk.callV2 (M' := mX1_piece) dX1_addPiecesOf_15 ml_X1_70 ke_X1_piece (by first | assumption | rfl) (by decide) (by decide) (by simp [Value.category]) (c_piece hx.1 (by omega) ?_)
    refine mOk.callV1 (M' := mX1_addPiece) dX1_addPiecesOf_18 ml_X1_83 ke_X1_addPiece (by first | assumption | rfl) (by decide) (by decide) (by simp [Value.category]) (c_addPiece hx (by simp; omega) ?_)
    intro I' hx' ho'
    refine mOk.iinc2 dX1_addPiecesOf_21 (mOk.inc1 rfl) (by decide) rfl ?_
    refine mOk.goto (tgt := 2) dX1_addPiecesOf_24 (by decide) ?_
    refine ih (i + 1) I' (by omega) ?_ (ho.tr ho')
    rw [take_s (by omega), ← List.append_assoc]
    exact hx'
theorem c_addPieces {q : CR} (hx : Pn I cb T q) {c : Int32} (h4 : q.2.2.2.2.length + (tP T c).length ≤ 4) (hQ : ∀ I', Pn I' cb T (q.1, q.2.1, q.2.2.1, q.2.2.2.1, q.2.2.2.2 ++ tP T c) → Off (cS cb) I I' → Q none (hS sw I' J)) : mCl mX1_addPiecesOf 2 0 0 [.ref cb, .int c] (hS sw I J) Q := by
  refine mCl.of (by decide) rfl (Nat.le_of_ble_eq_true rfl) ?_
  show mOk _ _ _ _ _ [some (.ref cb), some (.int c), none] _ _ _ _ _
  refine mOk.iconst (x := nI 0) dX1_addPiecesOf_0 (by decide) ?_
  refine mOk.istore2n dX1_addPiecesOf_1 rfl (by decide) rfl ?_
  refine l_addPieces h4 hQ _ 0 I (Nat.zero_add _) ?_ Off.rf
  rw [List.take_zero, List.append_nil]
  exact hx
theorem c_cempty (hx : Cd I cb T) (hQ : ∀ I', Cd I' cb [] → Off (cS cb) I I' → Q none (hS sw I' J)) : mCl mX1_empty 1 0 0 [.ref cb] (hS sw I J) Q := by
  obtain ⟨k0, k1, k2, k3, k4, k5, k6, k7, k8⟩ := cdK hx.1
  obtain ⟨p0, p1, p2, p3, p4, p5, p6⟩ := cdP hx.1 sw
  refine mCl.of (by decide) rfl (Nat.le_of_ble_eq_true rfl) ?_
  show mOk _ _ _ _ _ [some (.ref cb)] _ _ _ _ _
  refine mOk.aload0n dX1_empty_0 rfl ?_
  refine mOk.iconst (x := nI 0) dX1_empty_1 (by decide) ?_
  refine mOk.putIt dX1_empty_2 fl_X1_39 (by first | assumption | rfl) ?_
  refine mOk.aload0n dX1_empty_5 rfl ?_
  refine mOk.getR dX1_empty_6 fl_X1_35 (by first | assumption | rfl) (by first | assumption | rfl) ?_
  refine mOk.callV0 (M' := mX5_empty) dX1_empty_9 ml_X1_80 ke_X5_empty (by first | assumption | rfl) (by decide) (by decide) (by simp [Value.category]) (c_rempty (hx.2.2.2.2.off (S := [cb]) (Off.w (by simp)) (by simp) (by simp)) ?_)
  intro I' hr ho
  refine mOk.vret dX1_empty_12 rfl (by decide) ?_
  refine hQ _ ⟨hx.1, Nat.zero_le _, ?_, fun j q h => by simp at h, hr⟩ ((Off.w (a := cb) (by simp [cS])).tr (ho.up (by intro a ha; simp [cS] at ha ⊢; omega)))
  rw [ho cb (by simp), wI_s]; rfl
def addR (T : List CR) (kd cl a b : Int32) : CR := (kd, cl, a, b, (if kd = 0 then [nI T.length] else []) ++ tP T a ++ tP T b)
theorem c_add (hx : Cd I cb T) (hn : T.length < 24) {kd cl a b : Int32} (h4 : (addR T kd cl a b).2.2.2.2.length ≤ 4) (h7 : kd = 1 → (prs T).length < 7) (hQ : ∀ I', Cd I' cb (T ++ [addR T kd cl a b]) → Off (cS cb) I I' → Q none (hS sw I' J)) : mCl mX1_add 3 0 0 [.ref cb, .int kd, .int cl, .int a, .int b] (hS sw I J) Q := by
  obtain ⟨k0, k1, k2, k3, k4, k5, k6, k7, k8⟩ := cdK hx.1
  obtain ⟨p0, p1, p2, p3, p4, p5, p6⟩ := cdP hx.1 sw
  have hsz := hx.2.2.1
  refine mCl.of (by decide) rfl (Nat.le_of_ble_eq_true rfl) ?_
  show mOk _ _ _ _ _ [some (.ref cb), some (.int kd), some (.int cl), some (.int a), some (.int b)] _ _ _ _ _
  refine mOk.aload0n dX1_add_0 rfl ?_
  refine mOk.getIv dX1_add_1 fl_X1_39 (by first | assumption | rfl) hsz ?_
  refine mOk.iflt (tgt := 16) dX1_add_4 (by decide) (fun c4 => absurd c4 (nI_neg' (by omega))) (fun c4 => ?_)
  refine mOk.aload0n dX1_add_7 rfl ?_
  refine mOk.getIv dX1_add_8 fl_X1_39 (by first | assumption | rfl) hsz ?_
  refine mOk.bipush (x := nI 24) dX1_add_11 (by decide) ?_
  refine mOk.iclt (tgt := 17) dX1_add_13 (by decide) (fun c13 => ?_) (fun c13 => absurd ((nI_lt' (by omega) (by omega)).mpr hn) c13)
  refine mOk.aload0n dX1_add_17 rfl ?_
  refine mOk.getR dX1_add_18 fl_X1_9 (by first | assumption | rfl) (by first | assumption | rfl) ?_
  refine mOk.aload0n dX1_add_21 rfl ?_
  refine mOk.getIv dX1_add_22 fl_X1_39 (by first | assumption | rfl) hsz ?_
  refine mOk.iload1n dX1_add_25 rfl ?_
  refine mOk.iastt dX1_add_26 (by first | assumption | rfl) rfl (by omega) (by first | assumption | decide | omega) ?_
  refine mOk.aload0n dX1_add_27 rfl ?_
  refine mOk.getR dX1_add_28 fl_X1_15 (by first | assumption | rfl) (by first | assumption | rfl) ?_
  refine mOk.aload0n dX1_add_31 rfl ?_
  refine mOk.getIv dX1_add_32 fl_X1_39 (by first | assumption | rfl) ((congrFun (wI_c (by omega)) 7).trans hsz) ?_
  refine mOk.iload2n dX1_add_35 rfl ?_
  refine mOk.iastt dX1_add_36 (by first | assumption | rfl) rfl (by omega) (by first | assumption | decide | omega) ?_
  refine mOk.aload0n dX1_add_37 rfl ?_
  refine mOk.getR dX1_add_38 fl_X1_18 (by first | assumption | rfl) (by first | assumption | rfl) ?_
  refine mOk.aload0n dX1_add_41 rfl ?_
  refine mOk.getIv dX1_add_42 fl_X1_39 (by first | assumption | rfl) ((congrFun (wI_c (by omega)) 7).trans ((congrFun (wI_c (by omega)) 7).trans hsz)) ?_
  refine mOk.iload3n dX1_add_45 rfl ?_
  refine mOk.iastt dX1_add_46 (by first | assumption | rfl) rfl (by omega) (by first | assumption | decide | omega) ?_
  refine mOk.aload0n dX1_add_47 rfl ?_
  refine mOk.getR dX1_add_48 fl_X1_21 (by first | assumption | rfl) (by first | assumption | rfl) ?_
  refine mOk.aload0n dX1_add_51 rfl ?_
  refine mOk.getIv dX1_add_52 fl_X1_39 (by first | assumption | rfl) ((congrFun (wI_c (by omega)) 7).trans ((congrFun (wI_c (by omega)) 7).trans ((congrFun (wI_c (by omega)) 7).trans hsz))) ?_
  refine mOk.iload4 dX1_add_55 ?_
  refine mOk.iastt dX1_add_57 (by first | assumption | rfl) rfl (by omega) (by first | assumption | decide | omega) ?_
  refine mOk.aload0n dX1_add_58 rfl ?_
  refine mOk.getR dX1_add_59 fl_X1_24 (by first | assumption | rfl) (by first | assumption | rfl) ?_
  refine mOk.aload0n dX1_add_62 rfl ?_
  refine mOk.getIv dX1_add_63 fl_X1_39 (by first | assumption | rfl) ((congrFun (wI_c (by omega)) 7).trans ((congrFun (wI_c (by omega)) 7).trans ((congrFun (wI_c (by omega)) 7).trans ((congrFun (wI_c (by omega)) 7).trans hsz)))) ?_
  refine mOk.iconst (x := nI 0) dX1_add_66 (by decide) ?_
  refine mOk.iastt dX1_add_67 (by first | assumption | rfl) rfl (by omega) (by first | assumption | decide | omega) ?_
  generalize hI1 : wI (wI (wI (wI (wI I (cb + 1) T.length kd) (cb + 2) T.length cl) (cb + 3) T.length a) (cb + 4) T.length b) (cb + 5) T.length (nI 0) = I1
  have ho1 : Off (cS cb) I I1 := by
    rw [← hI1]
    exact (Off.w (a := cb + 1) (by simp [cS])).tr ((Off.w (a := cb + 2) (by simp [cS])).tr ((Off.w (a := cb + 3) (by simp [cS])).tr ((Off.w (a := cb + 4) (by simp [cS])).tr (Off.w (by simp [cS])))))
  have hp1 : Pn I1 cb T (kd, cl, a, b, []) := by
    rw [← hI1]
    refine ⟨hx.eq ?_ (fun i j h1 h2 hj => ?_) (fun j hj => ?_) ?_ ?_, hn, ?_, ?_, ?_, ?_, ?_, by simp, fun k p h => by simp at h⟩
    · simp only [wI_c (show cb ≠ cb + 5 by omega), wI_c (show cb ≠ cb + 4 by omega), wI_c (show cb ≠ cb + 3 by omega), wI_c (show cb ≠ cb + 2 by omega), wI_c (show cb ≠ cb + 1 by omega)]
    · rw [wI_j (by omega), wI_j (by omega), wI_j (by omega), wI_j (by omega), wI_j (by omega)]
    · rw [wI_c (by omega), wI_c (by omega), wI_c (by omega), wI_c (by omega), wI_c (by omega)]
    · rw [wI_c (by omega), wI_c (by omega), wI_c (by omega), wI_c (by omega), wI_c (by omega)]
    · rw [wI_c (by omega), wI_c (by omega), wI_c (by omega), wI_c (by omega), wI_c (by omega)]
    · rw [wI_c (by omega), wI_c (by omega), wI_c (by omega), wI_c (by omega), wI_s]
    · rw [wI_c (by omega), wI_c (by omega), wI_c (by omega), wI_s]
    · rw [wI_c (by omega), wI_c (by omega), wI_s]
    · rw [wI_c (by omega), wI_s]
    · rw [wI_s]; rfl
  have key : ∀ I2, Pn I2 cb T (kd, cl, a, b, if kd = 0 then [nI T.length] else []) → Off (cS cb) I I2 → mOk mX1_add 3 0 0 80 [some (.ref cb), some (.int kd), some (.int cl), some (.int a), some (.int b)] [] (hS sw I2 J) 0 0 Q := by
    intro I2 hp2 ho2
    have h4' : ((if kd = 0 then [nI T.length] else []) : List Int32).length + (tP T a).length + (tP T b).length ≤ 4 := by simpa [addR, Nat.add_assoc] using h4
    refine mOk.aload0n dX1_add_80 rfl ?_
    refine mOk.iload3n dX1_add_81 rfl ?_
    refine mOk.callV1 (M' := mX1_addPiecesOf) dX1_add_82 ml_X1_86 ke_X1_addPiecesOf (by first | assumption | rfl) (by decide) (by decide) (by simp [Value.category]) (c_addPieces hp2 (Nat.le_trans (Nat.le_add_right _ (tP T b).length) h4') ?_)
    intro I3 hp3 ho3
    refine mOk.aload0n dX1_add_85 rfl ?_
    refine mOk.iload4 dX1_add_86 ?_
    refine mOk.callV1 (M' := mX1_addPiecesOf) dX1_add_88 ml_X1_86 ke_X1_addPiecesOf (by first | assumption | rfl) (by decide) (by decide) (by simp [Value.category]) (c_addPieces hp3 (by show List.length (_ ++ _) + _ ≤ 4; rw [List.length_append]; omega) ?_)
    intro I4 hp4 ho4
    have ho : Off (cS cb) I I4 := ho2.tr (ho3.tr ho4)
    obtain ⟨hc4, -, e1, e2, e3, e4, e5, e6, e7⟩ := hp4
    have fin : ∀ I5, Off [cb + 7, cb + 8] I4 I5 → Rw I5 (cb + 7) (cb + 8) 7 (prs (T ++ [addR T kd cl a b])) → Off (cS cb) I I5 → mOk mX1_add 3 0 0 108 [some (.ref cb), some (.int kd), some (.int cl), some (.int a), some (.int b)] [] (hS sw I5 J) 0 0 Q := by
      intro I5 h5 hr5 ho5
      have hsz5 : I5 cb 7 = nI T.length := by rw [h5 cb (by simp)]; exact hc4.2.2.1
      refine mOk.aload0n dX1_add_108 rfl ?_
      refine mOk.dup dX1_add_109 rfl ?_
      refine mOk.getIv dX1_add_110 fl_X1_39 (by first | assumption | rfl) hsz5 ?_
      refine mOk.iconst (x := nI 1) dX1_add_113 (by decide) ?_
      refine mOk.iadd dX1_add_114 ?_
      refine mOk.top (nI_1 T.length) ?_
      refine mOk.putIt dX1_add_115 fl_X1_39 (by first | assumption | rfl) ?_
      refine mOk.vret dX1_add_118 rfl (by decide) ?_
      refine hQ _ ⟨hx.1, by simp; omega, by rw [wI_s]; simp, fun j q hq => ?_, hr5.off (S := [cb]) (Off.w (by simp)) (by simp) (by simp)⟩ (ho5.tr (Off.w (by simp [cS])))
      have g : ∀ i, 1 ≤ i → i ≤ 6 → wI I5 cb 7 (nI (T.length + 1)) (cb + i) = I4 (cb + i) := fun i h1 h2 => by rw [wI_c (by omega), h5 _ (by simp; omega)]
      rw [g 1 (by omega) (by omega), g 2 (by omega) (by omega), g 3 (by omega) (by omega), g 4 (by omega) (by omega), g 5 (by omega) (by omega), g 6 (by omega) (by omega)]
      rcases Nat.lt_or_ge j T.length with z | z
      · rw [List.getElem?_append_left z] at hq
        exact hc4.2.2.2.1 j q hq
      · rw [List.getElem?_append_right z] at hq
        have hj : j - T.length < 1 := (List.getElem?_eq_some_iff.mp hq).1
        rw [show j = T.length by omega] at hq ⊢
        simp at hq
        subst hq
        exact ⟨e1, e2, e3, e4, e5, e6, e7⟩
    have hr4 := hc4.2.2.2.2
    refine mOk.iload1n dX1_add_91 rfl ?_
    refine mOk.iconst (x := 1) dX1_add_92 (by decide) ?_
    refine mOk.icne (tgt := 108) dX1_add_93 (by decide) (fun c93 => ?_) (fun c93 => ?_)
    · refine fin I4 Off.rf ?_ ho
      rw [prs_app, if_neg (show ¬ (addR T kd cl a b).1 = 1 from c93), List.append_nil]
      exact hr4
    · refine mOk.aload0n dX1_add_96 rfl ?_
      refine mOk.getR dX1_add_97 fl_X1_35 (by first | assumption | rfl) (by first | assumption | rfl) ?_
      refine mOk.aload0n dX1_add_100 rfl ?_
      refine mOk.getIv dX1_add_101 fl_X1_39 (by first | assumption | rfl) hc4.2.2.1 ?_
      refine mOk.callV1 (M' := mX5_push) dX1_add_104 ml_X1_89 ke_X5_push (by first | assumption | rfl) (by decide) (by decide) (by simp [Value.category]) (c_push hr4 (h7 c93) ?_)
      intro I5 hr5 ho5
      refine mOk.pop dX1_add_107 rfl ?_
      refine fin I5 ho5 ?_ (ho.tr (ho5.up (by intro x hx; simp [cS] at hx ⊢; omega)))
      rw [prs_app, if_pos (show (addR T kd cl a b).1 = 1 from c93)]
      exact hr5
  refine mOk.iload1n dX1_add_68 rfl ?_
  refine mOk.ifne (tgt := 80) dX1_add_69 (by decide) (fun c69 => ?_) (fun c69 => ?_)
  · rw [if_neg c69] at key
    exact key I1 hp1 ho1
  · rw [if_pos c69] at key
    refine mOk.aload0n dX1_add_72 rfl ?_
    refine mOk.aload0n dX1_add_73 rfl ?_
    refine mOk.getIv dX1_add_74 fl_X1_39 (by first | assumption | rfl) hp1.1.2.2.1 ?_
    refine mOk.callV1 (M' := mX1_addPiece) dX1_add_77 ml_X1_83 ke_X1_addPiece (by first | assumption | rfl) (by decide) (by decide) (by simp [Value.category]) (c_addPiece hp1 (by simp) ?_)
    intro I2 hp2 ho2
    exact key I2 hp2 (ho1.tr ho2)
end CODES3
end
section
/-! ===== Rules: sorting ===== -/
/-- c comes behind those ahead of it (the nearest first) that are not greater -/
def insK (key : Int32 → Int32) (c : Int32) : List Int32 → List Int32
  | [] => [c]
  | x :: xs => if key c < key x then x :: insK key c xs else c :: x :: xs
def ins1 (key : Int32 → Int32) (c : Int32) (acc : List Int32) : List Int32 := if key c = 0 then c :: acc else insK key c acc
def srtR (key : Int32 → Int32) : List Int32 → List Int32 → List Int32
  | acc, [] => acc
  | acc, c :: cs => srtR key (ins1 key c acc) cs
def srt (key : Int32 → Int32) (xs : List Int32) : List Int32 := (srtR key [] xs).reverse
theorem insK_len (key : Int32 → Int32) (c : Int32) : ∀ xs, (insK key c xs).length = xs.length + 1
  | [] => rfl
  | x :: xs => by
    unfold insK
    split
    · simp [insK_len key c xs]
    · simp
theorem ins1_len (key : Int32 → Int32) (c : Int32) (xs : List Int32) : (ins1 key c xs).length = xs.length + 1 := by
  unfold ins1
  split
  · rfl
  · exact insK_len key c xs
theorem insK_mem {key : Int32 → Int32} {c y : Int32} : ∀ {xs : List Int32}, y ∈ insK key c xs ↔ y = c ∨ y ∈ xs
  | [] => by simp [insK]
  | x :: xs => by
    unfold insK
    split
    · rw [List.mem_cons, insK_mem, List.mem_cons]
      constructor
      · rintro (h | h | h) <;> simp [h]
      · rintro (h | h | h) <;> simp [h]
    · simp
theorem ins1_mem {key : Int32 → Int32} {c y : Int32} {xs : List Int32} : y ∈ ins1 key c xs ↔ y = c ∨ y ∈ xs := by
  unfold ins1
  split
  · simp
  · exact insK_mem
theorem srtR_len (key : Int32 → Int32) : ∀ xs acc, (srtR key acc xs).length = acc.length + xs.length
  | [], acc => rfl
  | c :: cs, acc => by
    unfold srtR
    rw [srtR_len key cs, ins1_len]
    simp
    omega
theorem srt_len (key : Int32 → Int32) (xs : List Int32) : (srt key xs).length = xs.length := by
  unfold srt
  rw [List.length_reverse, srtR_len]
  simp
theorem srtR_mem {key : Int32 → Int32} {y : Int32} : ∀ {xs acc : List Int32}, y ∈ srtR key acc xs ↔ y ∈ acc ∨ y ∈ xs
  | [], acc => by simp [srtR]
  | c :: cs, acc => by
    unfold srtR
    rw [srtR_mem, ins1_mem, List.mem_cons]
    constructor
    · rintro ((h | h) | h) <;> simp [h]
    · rintro (h | h | h) <;> simp [h]
theorem srt_mem {key : Int32 → Int32} {y : Int32} {xs : List Int32} : y ∈ srt key xs ↔ y ∈ xs := by
  unfold srt
  rw [List.mem_reverse, srtR_mem]
  simp
theorem getD_mid {as bs : List Int32} {x : Int32} : (as ++ x :: bs).getD as.length (-9) = x := by
  rw [List.getD_eq_getElem?_getD, List.getElem?_append_right (Nat.le_refl _)]
  simp
theorem set_mid {as bs : List Int32} {x y : Int32} : (as ++ x :: bs).set as.length y = as ++ y :: bs := by
  rw [List.set_append_right _ _ (Nat.le_refl _)]
  simp
theorem swp_mid {as bs : List Int32} {x y : Int32} : swp (as ++ x :: y :: bs) as.length = as ++ y :: x :: bs := by
  unfold swp
  rw [getD_mid]
  have e1 : (as ++ x :: y :: bs).getD (as.length + 1) (-9) = y := by
    rw [List.getD_eq_getElem?_getD, List.getElem?_append_right (by omega)]
    simp
  rw [e1]
  have e2 : (as ++ x :: y :: bs).set (as.length + 1) x = as ++ x :: x :: bs := by
    rw [List.set_append_right _ _ (by omega)]
    simp
  rw [e2, set_mid]
theorem Int32_nle {x y : Int32} (h : ¬ x ≤ y) : y < x := by rw [Int32.lt_iff_toInt_lt]; rw [Int32.le_iff_toInt_le] at h; omega
theorem Int32_nlt {x y : Int32} (h : x ≤ y) : ¬ y < x := by rw [Int32.lt_iff_toInt_lt]; rw [Int32.le_iff_toInt_le] at h; omega
section SORT
variable {sw : Bool} {I : Nat → Nat → Int32} {J : Nat → Nat → Int64} {cb : Nat} {T : List CR} {Q : Option Value → mi_H → Prop} {r ra cap ru : Nat}
/-- the inner loop: c goes ahead of those that are greater -/
theorem l_sort2 {I0 : Nat → Nat → Int32} (hdj : ∀ a ∈ cS cb, a ∉ [r, ra]) {c : Int32} {i : Nat} {tl : List Int32} {n : Nat} (hn : n < 100000) :
    ∀ (as bs : List Int32) (I : Nat → Nat → Int32), as.length + bs.length + 1 + tl.length = n → Cd I cb T → Rw I r ra cap (as.reverse ++ c :: (bs ++ tl)) → Off [r, ra] I0 I →
    (∀ I', Cd I' cb T → Rw I' r ra cap ((insK (tC T) c as).reverse ++ (bs ++ tl)) → Off [r, ra] I0 I' → ∀ l5, mOk mX6_sort 2 0 0 67 [some (.ref ru), some (.ref cb), some (.ref r), some (.int (nI i)), some (.int (tC T c)), some (.int l5)] [] (hS sw I' J) 0 0 Q) →
    mOk mX6_sort 2 0 0 33 [some (.ref ru), some (.ref cb), some (.ref r), some (.int (nI i)), some (.int (tC T c)), some (.int (nI as.length))] [] (hS sw I J) 0 0 Q := by
  intro as
  induction as with
  | nil =>
    intro bs I hlen hc hx ho hk
    refine mOk.iload5 dX6_sort_33 ?_
    refine mOk.ifle (tgt := 67) dX6_sort_35 (by decide) (fun c35 => ?_) (fun c35 => absurd ((by decide)) c35)
    exact hk I hc hx ho _
  | cons x as ih =>
    intro bs I hlen hc hx ho hk
    obtain ⟨k0, -⟩ := cdK hc.1
    obtain ⟨r0, -⟩ := id hx.1
    have hx1 : Rw I r ra cap (as.reverse ++ x :: c :: (bs ++ tl)) := by simpa using hx
    simp only [List.length_cons] at hlen ⊢
    refine mOk.iload5 dX6_sort_33 ?_
    refine mOk.ifle (tgt := 67) dX6_sort_35 (by decide) (fun c35 => absurd c35 (nI_nle (by omega) (by omega))) (fun c35 => ?_)
    refine mOk.aload1n dX6_sort_38 rfl ?_
    refine mOk.aload2n dX6_sort_39 rfl ?_
    refine mOk.iload5 dX6_sort_40 ?_
    refine mOk.iconst (x := nI 1) dX6_sort_42 (by decide) ?_
    refine mOk.isub dX6_sort_43 ?_
    refine mOk.top (nI_pred as.length) ?_
    refine mOk.callV1 (M' := mX5_cell) dX6_sort_44 ml_X6_62 ke_X5_cell (by first | assumption | rfl) (by decide) (by decide) (by simp [Value.category]) (c_cell_in hx1 (by simp) ?_)
    rw [show as.length = as.reverse.length by simp, getD_mid]
    refine mOk.callV1 (M' := mX1_classOf) dX6_sort_47 ml_X6_72 ke_X1_classOf (by first | assumption | rfl) (by decide) (by decide) (by simp [Value.category]) (c_classOf hc ?_)
    refine mOk.iload4 dX6_sort_50 ?_
    refine mOk.icle (tgt := 67) dX6_sort_52 (by decide) (fun c52 => ?_) (fun c52 => ?_)
    · refine hk I hc ?_ ho _
      rw [insK, if_neg (Int32_nlt c52)]
      simpa using hx
    · refine mOk.iinc5 (y := nI as.length) dX6_sort_55 (by rw [show (List.reverse as).length = as.length by simp]; exact pk_m1 as.length) (by decide) rfl ?_
      refine mOk.aload2n dX6_sort_58 rfl ?_
      refine mOk.iload5 dX6_sort_59 ?_
      refine mOk.callV1 (M' := mX5_swapWithNext) dX6_sort_61 ml_X6_85 ke_X5_swapWithNext (by first | assumption | rfl) (by decide) (by decide) (by simp [Value.category]) (c_swap hx1 (by simp) ?_)
      intro I' hx' ho'
      rw [show as.length = as.reverse.length by simp, swp_mid] at hx'
      rw [show as.length = as.reverse.length by simp]
      refine mOk.goto (tgt := 33) dX6_sort_64 (by decide) ?_
      rw [show as.reverse.length = as.length by simp]
      refine ih (x :: bs) I' (by simp; omega) (hc.off ho' hdj) hx' (ho.tr ho') (fun I'' hc'' hx'' ho'' l5 => hk I'' hc'' ?_ ho'' l5)
      rw [insK, if_pos (Int32_nle c52)]
      simpa using hx''
theorem l_sort {I0 : Nat → Nat → Int32} (hdj : ∀ a ∈ cS cb, a ∉ [r, ra]) {xs : List Int32} (hQ : ∀ I', Cd I' cb T → Rw I' r ra cap (srt (tC T) xs) → Off [r, ra] I0 I' → Q none (hS sw I' J)) :
    ∀ (rest acc : List Int32) (I : Nat → Nat → Int32) (l4 l5 : Option Value), Cd I cb T → Rw I r ra cap (acc.reverse ++ rest) → Off [r, ra] I0 I → srtR (tC T) acc rest = srtR (tC T) [] xs →
    mOk mX6_sort 2 0 0 2 [some (.ref ru), some (.ref cb), some (.ref r), some (.int (nI acc.length)), l4, l5] [] (hS sw I J) 0 0 Q := by
  intro rest
  induction rest with
  | nil =>
    intro acc I l4 l5 hc hx ho hs
    obtain ⟨r0, -⟩ := id hx.1
    have b1 := hx.1.2.2.2.1
    have b2 := hx.2.1
    simp at b2
    refine mOk.iload3n dX6_sort_2 rfl ?_
    refine mOk.aload2n dX6_sort_3 rfl ?_
    refine mOk.callV0 (M' := mX5_length) dX6_sort_4 ml_X6_58 ke_X5_length (by first | assumption | rfl) (by decide) (by decide) (by simp [Value.category]) (c_length hx ?_)
    refine mOk.icge (tgt := 73) dX6_sort_7 (by decide) (fun c7 => ?_) (fun c7 => absurd ((nI_le' (by simp; omega) (by omega)).mpr (by simp)) c7)
    refine mOk.vret dX6_sort_73 rfl (by decide) ?_
    refine hQ I hc ?_ ho
    unfold srt
    rw [← hs]
    simpa [srtR] using hx
  | cons c rest ih =>
    intro acc I l4 l5 hc hx ho hs
    obtain ⟨k0, -⟩ := cdK hc.1
    obtain ⟨r0, -⟩ := id hx.1
    have b1 := hx.1.2.2.2.1
    have b2 := hx.2.1
    simp at b2
    have next : ∀ I', Cd I' cb T → Rw I' r ra cap ((ins1 (tC T) c acc).reverse ++ rest) → Off [r, ra] I0 I' → ∀ (l5 : Int32), mOk mX6_sort 2 0 0 67 [some (.ref ru), some (.ref cb), some (.ref r), some (.int (nI acc.length)), some (.int (tC T c)), some (.int l5)] [] (hS sw I' J) 0 0 Q := by
      intro I' hc' hx' ho' l5
      refine mOk.iinc3 dX6_sort_67 (mOk.inc1 rfl) (by decide) rfl ?_
      refine mOk.goto (tgt := 2) dX6_sort_70 (by decide) ?_
      have := ih (ins1 (tC T) c acc) I' (some (.int (tC T c))) (some (.int l5)) hc' hx' ho' hs
      rw [ins1_len] at this
      exact this
    refine mOk.iload3n dX6_sort_2 rfl ?_
    refine mOk.aload2n dX6_sort_3 rfl ?_
    refine mOk.callV0 (M' := mX5_length) dX6_sort_4 ml_X6_58 ke_X5_length (by first | assumption | rfl) (by decide) (by decide) (by simp [Value.category]) (c_length hx ?_)
    refine mOk.icge (tgt := 73) dX6_sort_7 (by decide) (fun c7 => absurd c7 (mt (nI_le' (by simp; omega) (by omega)).mp (by simp))) (fun c7 => ?_)
    refine mOk.aload1n dX6_sort_10 rfl ?_
    refine mOk.aload2n dX6_sort_11 rfl ?_
    refine mOk.iload3n dX6_sort_12 rfl ?_
    refine mOk.callV1 (M' := mX5_cell) dX6_sort_13 ml_X6_62 ke_X5_cell (by first | assumption | rfl) (by decide) (by decide) (by simp [Value.category]) (c_cell_in hx (by simp) ?_)
    rw [show (acc.reverse ++ c :: rest).getD acc.length (-9) = c by rw [show acc.length = acc.reverse.length by simp, getD_mid]]
    refine mOk.callV1 (M' := mX1_classOf) dX6_sort_16 ml_X6_72 ke_X1_classOf (by first | assumption | rfl) (by decide) (by decide) (by simp [Value.category]) (c_classOf hc ?_)
    refine mOk.istore4 dX6_sort_19 (by decide) rfl ?_
    refine mOk.iload4 dX6_sort_21 ?_
    refine mOk.ifne (tgt := 30) dX6_sort_23 (by decide) (fun c23 => ?_) (fun c23 => ?_)
    · refine mOk.iload3n dX6_sort_30 rfl ?_
      refine mOk.istore5 dX6_sort_31 (by decide) rfl ?_
      refine l_sort2 (tl := rest) hdj (n := acc.length + 1 + rest.length) (by omega) acc [] I (by simp) hc (by simpa using hx) ho (fun I' hc' hx' ho' l5 => next I' hc' ?_ ho' l5)
      rw [ins1, if_neg c23]
      simpa using hx'
    · refine mOk.iconst (x := nI 0) dX6_sort_26 (by decide) ?_
      refine mOk.goto (tgt := 31) dX6_sort_27 (by decide) ?_
      refine mOk.istore5 dX6_sort_31 (by decide) rfl ?_
      refine mOk.iload5 dX6_sort_33 ?_
      refine mOk.ifle (tgt := 67) dX6_sort_35 (by decide) (fun c35 => ?_) (fun c35 => absurd ((by decide)) c35)
      refine next I hc ?_ ho _
      rw [ins1, if_pos c23]
      simpa using hx
theorem c_sort (hc : Cd I cb T) {xs : List Int32} (hx : Rw I r ra cap xs) (hdj : ∀ a ∈ cS cb, a ∉ [r, ra]) (hQ : ∀ I', Cd I' cb T → Rw I' r ra cap (srt (tC T) xs) → Off [r, ra] I I' → Q none (hS sw I' J)) : mCl mX6_sort 2 0 0 [.ref ru, .ref cb, .ref r] (hS sw I J) Q := by
  obtain ⟨r0, -⟩ := id hx.1
  have b1 := hx.1.2.2.2.1
  have b2 := hx.2.1
  refine mCl.of (by decide) rfl (Nat.le_of_ble_eq_true rfl) ?_
  show mOk _ _ _ _ _ [some (.ref ru), some (.ref cb), some (.ref r), none, none, none] _ _ _ _ _
  refine mOk.iconst (x := nI 1) dX6_sort_0 (by decide) ?_
  refine mOk.istore3n dX6_sort_1 rfl (by decide) rfl ?_
  cases xs with
  | nil =>
    refine mOk.iload3n dX6_sort_2 rfl ?_
    refine mOk.aload2n dX6_sort_3 rfl ?_
    refine mOk.callV0 (M' := mX5_length) dX6_sort_4 ml_X6_58 ke_X5_length (by first | assumption | rfl) (by decide) (by decide) (by simp [Value.category]) (c_length hx ?_)
    refine mOk.icge (tgt := 73) dX6_sort_7 (by decide) (fun c7 => ?_) (fun c7 => absurd ((by decide)) c7)
    refine mOk.vret dX6_sort_73 rfl (by decide) ?_
    exact hQ I hc hx Off.rf
  | cons x xs =>
    refine l_sort (acc := [x]) (I0 := I) (xs := x :: xs) hdj hQ xs I none none hc hx Off.rf ?_
    show srtR _ [x] xs = srtR _ (ins1 _ x []) xs
    have : ins1 (tC T) x [] = [x] := by unfold ins1; split <;> rfl
    rw [this]
end SORT
end
section
/-! ===== Rules: apart, bases alone, back, first, whether sorted ===== -/
def apart (T : List CR) (xs : List Int32) : List Int32 := srt (tC T) (xs.flatMap (tP T))
def bare (T : List CR) (xs : List Int32) : List Int32 := xs.filter (fun c => decide (tC T c = 0))
def fst1 (T : List CR) : Nat → List Int32 → List Int32
  | _, [] => []
  | b, c :: cs => if 1 < b + (if tC T c = 0 then 1 else 0) then [] else c :: fst1 T (b + (if tC T c = 0 then 1 else 0)) cs
/-- neighbours are in order (from i on) -/
def srtd (key : Int32 → Int32) : List Int32 → Bool
  | x :: y :: ys => (decide (key y = 0) || decide (key x ≤ key y)) && srtd key (y :: ys)
  | _ => true
theorem fst1_len (T : List CR) : ∀ (xs : List Int32) (b : Nat), (fst1 T b xs).length ≤ xs.length
  | [], _ => by simp [fst1]
  | c :: cs, b => by
    unfold fst1
    generalize b + (if tC T c = 0 then 1 else 0) = b'
    split
    · simp
    · have := fst1_len T cs b'
      simp
      omega
theorem dec1 (x : Int32) : x + Int32.ofInt (-1) = x - 1 := by rw [Int32.sub_eq_add_neg]; rfl
section RULES
variable {sw : Bool} {I : Nat → Nat → Int32} {J : Nat → Nat → Int64} {cb : Nat} {T : List CR} {Q : Option Value → mi_H → Prop} {t ta tcap f fa fcap ru : Nat} {xs : List Int32}
/-- the pieces of one code are pushed -/
theorem l_apart2 {I0 : Nat → Nat → Int32} (hdj : ∀ a ∈ cS cb, a ∉ [t, ta]) (hf1 : f ∉ [t, ta]) (hf2 : fa ∉ [t, ta]) {c : Int32} {i : Nat} {out : List Int32} (hfit : out.length + (tP T c).length ≤ tcap) 
    (hk : ∀ I', Cd I' cb T → Rw I' f fa fcap xs → Rw I' t ta tcap (out ++ tP T c) → Off [t, ta] I0 I' → ∀ l6, mOk mX6_takeApart 3 0 0 53 [some (.ref ru), some (.ref cb), some (.ref f), some (.ref t), some (.int (nI i)), some (.int c), some (.int l6)] [] (hS sw I' J) 0 0 Q) :
    ∀ (m k : Nat) (I : Nat → Nat → Int32), k + m = (tP T c).length → Cd I cb T → Rw I f fa fcap xs → Rw I t ta tcap (out ++ (tP T c).take k) → Off [t, ta] I0 I →
    mOk mX6_takeApart 3 0 0 23 [some (.ref ru), some (.ref cb), some (.ref f), some (.ref t), some (.int (nI i)), some (.int c), some (.int (nI k))] [] (hS sw I J) 0 0 Q := by
  intro m
  induction m with
  | zero =>
    intro k I hkm hc hf ht ho
    obtain ⟨k0, -⟩ := cdK hc.1
    have h4 := hc.le4 c
    refine mOk.iload6 dX6_takeApart_23 ?_
    refine mOk.aload1n dX6_takeApart_25 rfl ?_
    refine mOk.iload5 dX6_takeApart_26 ?_
    refine mOk.callV1 (M' := mX1_pieceCount) dX6_takeApart_28 ml_X6_75 ke_X1_pieceCount (by first | assumption | rfl) (by decide) (by decide) (by simp [Value.category]) (c_pieceCount hc ?_)
    refine mOk.icge (tgt := 53) dX6_takeApart_31 (by decide) (fun c31 => ?_) (fun c31 => absurd ((nI_le' (by omega) (by omega)).mpr (by omega)) c31)
    rw [List.take_of_length_le (by omega)] at ht
    exact hk I hc hf ht ho _
  | succ m ih =>
    intro k I hkm hc hf ht ho
    obtain ⟨k0, -⟩ := cdK hc.1
    obtain ⟨t0, -⟩ := id ht.1
    have h4 := hc.le4 c
    refine mOk.iload6 dX6_takeApart_23 ?_
    refine mOk.aload1n dX6_takeApart_25 rfl ?_
    refine mOk.iload5 dX6_takeApart_26 ?_
    refine mOk.callV1 (M' := mX1_pieceCount) dX6_takeApart_28 ml_X6_75 ke_X1_pieceCount (by first | assumption | rfl) (by decide) (by decide) (by simp [Value.category]) (c_pieceCount hc ?_)
    refine mOk.icge (tgt := 53) dX6_takeApart_31 (by decide) (fun c31 => absurd c31 (mt (nI_le' (by omega) (by omega)).mp (by omega))) (fun c31 => ?_)
    refine mOk.aload3n dX6_takeApart_34 rfl ?_
    refine mOk.aload1n dX6_takeApart_35 rfl ?_
    refine mOk.iload5 dX6_takeApart_36 ?_
    refine mOk.iload6 dX6_takeApart_38 ?_
    refine mOk.callV2 (M' := mX1_piece) dX6_takeApart_40 ml_X6_78 ke_X1_piece (by first | assumption | rfl) (by decide) (by decide) (by simp [Value.category]) (c_piece hc (by omega) ?_)
    refine mOk.callV1 (M' := mX5_push) dX6_takeApart_43 ml_X6_82 ke_X5_push (by first | assumption | rfl) (by decide) (by decide) (by simp [Value.category]) (c_push ht (by simp; omega) ?_)
    intro I' ht' ho'
    refine mOk.pop dX6_takeApart_46 rfl ?_
    refine mOk.iinc6 dX6_takeApart_47 (mOk.inc1 rfl) (by decide) rfl ?_
    refine mOk.goto (tgt := 23) dX6_takeApart_50 (by decide) ?_
    refine ih (k + 1) I' (by omega) (hc.off ho' hdj) (hf.off ho' hf1 hf2) ?_ (ho.tr ho')
    rw [take_s (by omega), ← List.append_assoc]
    exact ht'
theorem l_apart {I0 : Nat → Nat → Int32} (ru0 : KK[ru]? = some (6, 2)) (hdj : ∀ a ∈ cS cb, a ∉ [t, ta]) (hf1 : f ∉ [t, ta]) (hf2 : fa ∉ [t, ta]) (hfit : (xs.flatMap (tP T)).length ≤ tcap)
    (hQ : ∀ I', Cd I' cb T → Rw I' t ta tcap (apart T xs) → Off [t, ta] I0 I' → Q none (hS sw I' J)) :
    ∀ (m i : Nat) (I : Nat → Nat → Int32) (l5 l6 : Option Value), i + m = xs.length → Cd I cb T → Rw I f fa fcap xs → Rw I t ta tcap ((xs.take i).flatMap (tP T)) → Off [t, ta] I0 I →
    mOk mX6_takeApart 3 0 0 3 [some (.ref ru), some (.ref cb), some (.ref f), some (.ref t), some (.int (nI i)), l5, l6] [] (hS sw I J) 0 0 Q := by
  intro m
  induction m with
  | zero =>
    intro i I l5 l6 him hc hf ht ho
    obtain ⟨f0, -⟩ := id hf.1
    have b1 := hf.1.2.2.2.1
    have b2 := hf.2.1
    refine mOk.iload4 dX6_takeApart_3 ?_
    refine mOk.aload2n dX6_takeApart_5 rfl ?_
    refine mOk.callV0 (M' := mX5_length) dX6_takeApart_6 ml_X6_58 ke_X5_length (by first | assumption | rfl) (by decide) (by decide) (by simp [Value.category]) (c_length hf ?_)
    refine mOk.icge (tgt := 59) dX6_takeApart_9 (by decide) (fun c9 => ?_) (fun c9 => absurd ((nI_le' (by omega) (by omega)).mpr (by omega)) c9)
    rw [List.take_of_length_le (by omega)] at ht
    refine mOk.aload0n dX6_takeApart_59 rfl ?_
    refine mOk.aload1n dX6_takeApart_60 rfl ?_
    refine mOk.aload3n dX6_takeApart_61 rfl ?_
    refine mOk.callV2 (M' := mX6_sort) dX6_takeApart_62 ml_X6_38 ke_X6_sort ru0 (by decide) (by decide) (by simp [Value.category]) (c_sort hc ht hdj ?_)
    intro I' hc' ht' ho'
    refine mOk.vret dX6_takeApart_65 rfl (by decide) ?_
    exact hQ I' hc' ht' (ho.tr ho')
  | succ m ih =>
    intro i I l5 l6 him hc hf ht ho
    obtain ⟨f0, -⟩ := id hf.1
    have b1 := hf.1.2.2.2.1
    have b2 := hf.2.1
    have hc4 := hc.le4 (xs.getD i (-9))
    have hsp : xs.flatMap (tP T) = (xs.take i).flatMap (tP T) ++ (tP T (xs.getD i (-9)) ++ (xs.drop (i + 1)).flatMap (tP T)) := by
      rw [← List.flatMap_cons, ← drop_c (by omega), ← List.flatMap_append, List.take_append_drop]
    have hlen := congrArg List.length hsp
    simp only [List.length_append] at hlen
    refine mOk.iload4 dX6_takeApart_3 ?_
    refine mOk.aload2n dX6_takeApart_5 rfl ?_
    refine mOk.callV0 (M' := mX5_length) dX6_takeApart_6 ml_X6_58 ke_X5_length (by first | assumption | rfl) (by decide) (by decide) (by simp [Value.category]) (c_length hf ?_)
    refine mOk.icge (tgt := 59) dX6_takeApart_9 (by decide) (fun c9 => absurd c9 (mt (nI_le' (by omega) (by omega)).mp (by omega))) (fun c9 => ?_)
    refine mOk.aload2n dX6_takeApart_12 rfl ?_
    refine mOk.iload4 dX6_takeApart_13 ?_
    refine mOk.callV1 (M' := mX5_cell) dX6_takeApart_15 ml_X6_62 ke_X5_cell (by first | assumption | rfl) (by decide) (by decide) (by simp [Value.category]) (c_cell_in hf (by omega) ?_)
    refine mOk.istore5 dX6_takeApart_18 (by decide) rfl ?_
    refine mOk.iconst (x := nI 0) dX6_takeApart_20 (by decide) ?_
    refine mOk.istore6 dX6_takeApart_21 (by decide) rfl ?_
    refine l_apart2 (I0 := I0) (xs := xs) (fcap := fcap) (tcap := tcap) (out := (xs.take i).flatMap (tP T)) hdj hf1 hf2 (by omega) (fun I' hc' hf' ht' ho' l6 => ?_) (tP T (xs.getD i (-9))).length 0 I (Nat.zero_add _) hc hf (by simpa using ht) ho
    refine mOk.iinc4 dX6_takeApart_53 (mOk.inc1 rfl) (by decide) rfl ?_
    refine mOk.goto (tgt := 3) dX6_takeApart_56 (by decide) ?_
    refine ih (i + 1) I' _ _ (by omega) hc' hf' ?_ ho'
    rw [take_s (by omega), List.flatMap_append]
    simpa using ht'
theorem c_apart (hru : KK[ru]? = some (6, 2)) (hc : Cd I cb T) (hf : Rw I f fa fcap xs) (ht : Rw I t ta tcap []) (hdj : ∀ a ∈ cS cb, a ∉ [t, ta]) (hf1 : f ∉ [t, ta]) (hf2 : fa ∉ [t, ta]) (hfit : (xs.flatMap (tP T)).length ≤ tcap)
    (hQ : ∀ I', Cd I' cb T → Rw I' t ta tcap (apart T xs) → Off [t, ta] I I' → Q none (hS sw I' J)) : mCl mX6_takeApart 3 0 0 [.ref ru, .ref cb, .ref f, .ref t] (hS sw I J) Q := by
  refine mCl.of (by decide) rfl (Nat.le_of_ble_eq_true rfl) ?_
  show mOk _ _ _ _ _ [some (.ref ru), some (.ref cb), some (.ref f), some (.ref t), none, none, none] _ _ _ _ _
  refine mOk.iconst (x := nI 0) dX6_takeApart_0 (by decide) ?_
  refine mOk.istore4 dX6_takeApart_1 (by decide) rfl ?_
  exact l_apart hru hdj hf1 hf2 hfit hQ _ 0 I _ _ (Nat.zero_add _) hc hf ht Off.rf
/-- those that are left come ahead -/
theorem l_bare {I0 : Nat → Nat → Int32} (hdj : ∀ a ∈ cS cb, a ∉ [t, ta]) (hQ : ∀ I', Cd I' cb T → Rw I' t ta tcap (bare T xs) → Off [t, ta] I0 I' → Q none (hS sw I' J)) :
    ∀ (rest out jk : List Int32) (i : Nat) (I : Nat → Nat → Int32) (l6 : Option Value), out.length + jk.length = i → i + rest.length = xs.length → Cd I cb T → Rw I t ta tcap (out ++ (jk ++ rest)) → bare T xs = out ++ bare T rest → Off [t, ta] I0 I →
    mOk mX6_dropMarks 3 0 0 11 [some (.ref ru), some (.ref cb), some (.ref t), some (.int (nI xs.length)), some (.int (nI out.length)), some (.int (nI i)), l6] [] (hS sw I J) 0 0 Q := by
  intro rest
  induction rest with
  | nil =>
    intro out jk i I l6 h1 h2 hc ht hb ho
    obtain ⟨t0, -⟩ := id ht.1
    have b1 := ht.1.2.2.2.1
    have b2 := ht.2.1
    simp only [List.length_append, List.length_nil] at b2 h2
    refine mOk.iload5 dX6_dropMarks_11 ?_
    refine mOk.iload3n dX6_dropMarks_13 rfl ?_
    refine mOk.icge (tgt := 51) dX6_dropMarks_14 (by decide) (fun c14 => ?_) (fun c14 => absurd ((nI_le' (by omega) (by omega)).mpr (by omega)) c14)
    refine mOk.aload2n dX6_dropMarks_51 rfl ?_
    refine mOk.iload4 dX6_dropMarks_52 ?_
    refine mOk.callV1 (M' := mX5_shorten) dX6_dropMarks_54 ml_X6_100 ke_X5_shorten (by first | assumption | rfl) (by decide) (by decide) (by simp [Value.category]) (c_shorten ht (by simp) ?_)
    intro I' ht' ho'
    refine mOk.vret dX6_dropMarks_57 rfl (by decide) ?_
    refine hQ I' (hc.off ho' hdj) ?_ (ho.tr ho')
    rw [List.take_left] at ht'
    rw [hb]
    simpa [bare] using ht'
  | cons c rest ih =>
    intro out jk i I l6 h1 h2 hc ht hb ho
    obtain ⟨k0, -⟩ := cdK hc.1
    obtain ⟨t0, -⟩ := id ht.1
    have b1 := ht.1.2.2.2.1
    have b2 := ht.2.1
    simp only [List.length_append, List.length_cons] at b2 h2
    have hget : (out ++ (jk ++ c :: rest)).getD i (-9) = c := by
      rw [← List.append_assoc, show i = (out ++ jk).length by simp [h1], getD_mid]
    refine mOk.iload5 dX6_dropMarks_11 ?_
    refine mOk.iload3n dX6_dropMarks_13 rfl ?_
    refine mOk.icge (tgt := 51) dX6_dropMarks_14 (by decide) (fun c14 => absurd c14 (mt (nI_le' (by omega) (by omega)).mp (by omega))) (fun c14 => ?_)
    refine mOk.aload2n dX6_dropMarks_17 rfl ?_
    refine mOk.iload5 dX6_dropMarks_18 ?_
    refine mOk.callV1 (M' := mX5_cell) dX6_dropMarks_20 ml_X6_62 ke_X5_cell (by first | assumption | rfl) (by decide) (by decide) (by simp [Value.category]) (c_cell_in ht (by simp; omega) ?_)
    rw [hget]
    refine mOk.istore6 dX6_dropMarks_23 (by decide) rfl ?_
    refine mOk.aload1n dX6_dropMarks_25 rfl ?_
    refine mOk.iload6 dX6_dropMarks_26 ?_
    refine mOk.callV1 (M' := mX1_isBase) dX6_dropMarks_28 ml_X6_66 ke_X1_isBase (by first | assumption | rfl) (by decide) (by decide) (by simp [Value.category]) (c_isBase hc ?_)
    by_cases h0 : tC T c = 0
    · rw [if_pos h0]
      refine mOk.ifeq (tgt := 45) dX6_dropMarks_31 (by decide) (fun c31 => absurd c31 ((by decide))) (fun c31 => ?_)
      refine mOk.aload2n dX6_dropMarks_34 rfl ?_
      refine mOk.iload4 dX6_dropMarks_35 ?_
      refine mOk.iload6 dX6_dropMarks_37 ?_
      refine mOk.callV2 (M' := mX5_setCell) dX6_dropMarks_39 ml_X6_91 ke_X5_setCell (by first | assumption | rfl) (by decide) (by decide) (by simp [Value.category]) (c_setCell ht (by simp; omega) ?_)
      intro I' ht' ho'
      refine mOk.iinc4 dX6_dropMarks_42 (mOk.inc1 rfl) (by decide) rfl ?_
      refine mOk.iinc5 dX6_dropMarks_45 (mOk.inc1 rfl) (by decide) rfl ?_
      refine mOk.goto (tgt := 11) dX6_dropMarks_48 (by decide) ?_
      have e : ∃ jk', (out ++ (jk ++ c :: rest)).set out.length c = (out ++ [c]) ++ (jk' ++ rest) ∧ jk'.length = jk.length := by
        cases jk with
        | nil => exact ⟨[], by rw [List.nil_append, set_mid]; simp, rfl⟩
        | cons y ys => exact ⟨ys ++ [c], by rw [List.cons_append, set_mid]; simp, by simp⟩
      obtain ⟨jk', e1, e2⟩ := e
      rw [e1] at ht'
      have := ih (out ++ [c]) jk' (i + 1) I' (some (.int c)) (by simp; omega) (by omega) (hc.off ho' hdj) ht' (by rw [hb]; simp [bare, h0]) (ho.tr ho')
      simpa using this
    · rw [if_neg h0]
      refine mOk.ifeq (tgt := 45) dX6_dropMarks_31 (by decide) (fun c31 => ?_) (fun c31 => absurd (rfl) c31)
      refine mOk.iinc5 dX6_dropMarks_45 (mOk.inc1 rfl) (by decide) rfl ?_
      refine mOk.goto (tgt := 11) dX6_dropMarks_48 (by decide) ?_
      exact ih out (jk ++ [c]) (i + 1) I (some (.int c)) (by simp; omega) (by omega) hc (by simpa using ht) (by rw [hb]; simp [bare, h0]) ho
theorem c_bare (hc : Cd I cb T) (ht : Rw I t ta tcap xs) (hdj : ∀ a ∈ cS cb, a ∉ [t, ta]) (hQ : ∀ I', Cd I' cb T → Rw I' t ta tcap (bare T xs) → Off [t, ta] I I' → Q none (hS sw I' J)) : mCl mX6_dropMarks 3 0 0 [.ref ru, .ref cb, .ref t] (hS sw I J) Q := by
  obtain ⟨t0, -⟩ := id ht.1
  refine mCl.of (by decide) rfl (Nat.le_of_ble_eq_true rfl) ?_
  show mOk _ _ _ _ _ [some (.ref ru), some (.ref cb), some (.ref t), none, none, none, none] _ _ _ _ _
  refine mOk.aload2n dX6_dropMarks_0 rfl ?_
  refine mOk.callV0 (M' := mX5_length) dX6_dropMarks_1 ml_X6_58 ke_X5_length (by first | assumption | rfl) (by decide) (by decide) (by simp [Value.category]) (c_length ht ?_)
  refine mOk.istore3n dX6_dropMarks_4 rfl (by decide) rfl ?_
  refine mOk.iconst (x := nI 0) dX6_dropMarks_5 (by decide) ?_
  refine mOk.istore4 dX6_dropMarks_6 (by decide) rfl ?_
  refine mOk.iconst (x := nI 0) dX6_dropMarks_8 (by decide) ?_
  refine mOk.istore5 dX6_dropMarks_9 (by decide) rfl ?_
  exact l_bare hdj hQ xs [] [] 0 I _ rfl (Nat.zero_add _) hc ht rfl Off.rf
theorem l_turn {I0 : Nat → Nat → Int32} (hf1 : f ∉ [t, ta]) (hf2 : fa ∉ [t, ta]) (hfit : xs.length ≤ tcap) (hQ : ∀ I', Rw I' t ta tcap xs.reverse → Off [t, ta] I0 I' → Q none (hS sw I' J)) :
    ∀ (m : Nat) (i : Int32) (I : Nat → Nat → Int32), i = nI m - 1 → m ≤ xs.length → Rw I f fa fcap xs → Rw I t ta tcap ((xs.drop m).reverse) → Off [t, ta] I0 I →
    mOk mX6_turn 1 0 0 7 [some (.ref ru), some (.ref f), some (.ref t), some (.int i)] [] (hS sw I J) 0 0 Q := by
  intro m
  induction m with
  | zero =>
    intro i I hi hm hf ht ho
    subst hi
    refine mOk.iload3n dX6_turn_7 rfl ?_
    refine mOk.iflt (tgt := 27) dX6_turn_8 (by decide) (fun c8 => ?_) (fun c8 => absurd ((by decide)) c8)
    refine mOk.vret dX6_turn_27 rfl (by decide) ?_
    exact hQ I (by simpa using ht) ho
  | succ m ih =>
    intro i I hi hm hf ht ho
    obtain ⟨f0, -⟩ := id hf.1
    obtain ⟨t0, -⟩ := id ht.1
    have b1 := hf.1.2.2.2.1
    have b2 := hf.2.1
    rw [nI_pred] at hi
    subst hi
    refine mOk.iload3n dX6_turn_7 rfl ?_
    refine mOk.iflt (tgt := 27) dX6_turn_8 (by decide) (fun c8 => absurd c8 (nI_neg' (by omega))) (fun c8 => ?_)
    refine mOk.aload2n dX6_turn_11 rfl ?_
    refine mOk.aload1n dX6_turn_12 rfl ?_
    refine mOk.iload3n dX6_turn_13 rfl ?_
    refine mOk.callV1 (M' := mX5_cell) dX6_turn_14 ml_X6_62 ke_X5_cell (by first | assumption | rfl) (by decide) (by decide) (by simp [Value.category]) (c_cell_in hf (by omega) ?_)
    refine mOk.callV1 (M' := mX5_push) dX6_turn_17 ml_X6_82 ke_X5_push (by first | assumption | rfl) (by decide) (by decide) (by simp [Value.category]) (c_push ht (by simp; omega) ?_)
    intro I' ht' ho'
    refine mOk.pop dX6_turn_20 rfl ?_
    refine mOk.iinc3 (y := nI m - 1) dX6_turn_21 (dec1 _) (by decide) rfl ?_
    refine mOk.goto (tgt := 7) dX6_turn_24 (by decide) ?_
    refine ih _ I' rfl (by omega) (hf.off ho' hf1 hf2) ?_ (ho.tr ho')
    rw [drop_c (by omega), List.reverse_cons]
    exact ht'
theorem c_turn (hf : Rw I f fa fcap xs) (ht : Rw I t ta tcap []) (hf1 : f ∉ [t, ta]) (hf2 : fa ∉ [t, ta]) (hfit : xs.length ≤ tcap) (hQ : ∀ I', Rw I' t ta tcap xs.reverse → Off [t, ta] I I' → Q none (hS sw I' J)) : mCl mX6_turn 1 0 0 [.ref ru, .ref f, .ref t] (hS sw I J) Q := by
  obtain ⟨f0, -⟩ := id hf.1
  refine mCl.of (by decide) rfl (Nat.le_of_ble_eq_true rfl) ?_
  show mOk _ _ _ _ _ [some (.ref ru), some (.ref f), some (.ref t), none] _ _ _ _ _
  refine mOk.aload1n dX6_turn_0 rfl ?_
  refine mOk.callV0 (M' := mX5_length) dX6_turn_1 ml_X6_58 ke_X5_length (by first | assumption | rfl) (by decide) (by decide) (by simp [Value.category]) (c_length hf ?_)
  refine mOk.iconst (x := nI 1) dX6_turn_4 (by decide) ?_
  refine mOk.isub dX6_turn_5 ?_
  refine mOk.istore3n dX6_turn_6 rfl (by decide) rfl ?_
  exact l_turn hf1 hf2 hfit hQ xs.length _ I rfl (Nat.le_refl _) hf (by simpa using ht) Off.rf
theorem l_first {I0 : Nat → Nat → Int32} (hdj : ∀ a ∈ cS cb, a ∉ [t, ta]) (hf1 : f ∉ [t, ta]) (hf2 : fa ∉ [t, ta]) (hfit : xs.length ≤ tcap) (hQ : ∀ I', Rw I' t ta tcap (fst1 T 0 xs) → Off [t, ta] I0 I' → Q none (hS sw I' J)) :
    ∀ (m i b : Nat) (I : Nat → Nat → Int32) (l6 : Option Value) (out : List Int32), i + m = xs.length → b ≤ 1 → out.length = i → fst1 T 0 xs = out ++ fst1 T b (xs.drop i) → Cd I cb T → Rw I f fa fcap xs → Rw I t ta tcap out → Off [t, ta] I0 I →
    mOk mX6_takeFirst 3 0 0 6 [some (.ref ru), some (.ref cb), some (.ref f), some (.ref t), some (.int (nI b)), some (.int (nI i)), l6] [] (hS sw I J) 0 0 Q := by
  intro m
  induction m with
  | zero =>
    intro i b I l6 out hi hb hout hs hc hf ht ho
    obtain ⟨f0, -⟩ := id hf.1
    have b1 := hf.1.2.2.2.1
    have b2 := hf.2.1
    refine mOk.iload5 dX6_takeFirst_6 ?_
    refine mOk.aload2n dX6_takeFirst_8 rfl ?_
    refine mOk.callV0 (M' := mX5_length) dX6_takeFirst_9 ml_X6_58 ke_X5_length (by first | assumption | rfl) (by decide) (by decide) (by simp [Value.category]) (c_length hf ?_)
    refine mOk.icge (tgt := 55) dX6_takeFirst_12 (by decide) (fun c12 => ?_) (fun c12 => absurd ((nI_le' (by omega) (by omega)).mpr (by omega)) c12)
    refine mOk.vret dX6_takeFirst_55 rfl (by decide) ?_
    rw [List.drop_of_length_le (by omega), fst1, List.append_nil] at hs
    exact hQ I (by rw [hs]; exact ht) ho
  | succ m ih =>
    intro i b I l6 out hi hb hout hs hc hf ht ho
    obtain ⟨k0, -⟩ := cdK hc.1
    obtain ⟨f0, -⟩ := id hf.1
    obtain ⟨t0, -⟩ := id ht.1
    have b1 := hf.1.2.2.2.1
    have b2 := hf.2.1
    rw [drop_c (by omega), fst1] at hs
    have key : ∀ b', b' = b + (if tC T (xs.getD i (-9)) = 0 then 1 else 0) → mOk mX6_takeFirst 3 0 0 35 [some (.ref ru), some (.ref cb), some (.ref f), some (.ref t), some (.int (nI b')), some (.int (nI i)), some (.int (xs.getD i (-9)))] [] (hS sw I J) 0 0 Q := by
      intro b' hb'
      rw [← hb'] at hs
      have hb2 : b' ≤ 2 := by rw [hb']; split <;> omega
      by_cases h2 : 1 < b'
      · refine mOk.iload4 dX6_takeFirst_35 ?_
        refine mOk.iconst (x := nI 1) dX6_takeFirst_37 (by decide) ?_
        refine mOk.icle (tgt := 42) dX6_takeFirst_38 (by decide) (fun c38 => absurd c38 (mt (nI_le' (by omega) (by omega)).mp (by omega))) (fun c38 => ?_)
        refine mOk.vret dX6_takeFirst_41 rfl (by decide) ?_
        rw [if_pos h2, List.append_nil] at hs
        exact hQ I (by rw [hs]; exact ht) ho
      · refine mOk.iload4 dX6_takeFirst_35 ?_
        refine mOk.iconst (x := nI 1) dX6_takeFirst_37 (by decide) ?_
        refine mOk.icle (tgt := 42) dX6_takeFirst_38 (by decide) (fun c38 => ?_) (fun c38 => absurd ((nI_le' (by omega) (by omega)).mpr (by omega)) c38)
        refine mOk.aload3n dX6_takeFirst_42 rfl ?_
        refine mOk.iload6 dX6_takeFirst_43 ?_
        refine mOk.callV1 (M' := mX5_push) dX6_takeFirst_45 ml_X6_82 ke_X5_push (by first | assumption | rfl) (by decide) (by decide) (by simp [Value.category]) (c_push ht (by omega) ?_)
        intro I' ht' ho'
        refine mOk.pop dX6_takeFirst_48 rfl ?_
        refine mOk.iinc5 dX6_takeFirst_49 (mOk.inc1 rfl) (by decide) rfl ?_
        refine mOk.goto (tgt := 6) dX6_takeFirst_52 (by decide) ?_
        rw [if_neg h2] at hs
        exact ih (i + 1) b' I' _ (out ++ [xs.getD i (-9)]) (by omega) (by omega) (by simp; omega) (by rw [hs]; simp) (hc.off ho' hdj) (hf.off ho' hf1 hf2) ht' (ho.tr ho')
    refine mOk.iload5 dX6_takeFirst_6 ?_
    refine mOk.aload2n dX6_takeFirst_8 rfl ?_
    refine mOk.callV0 (M' := mX5_length) dX6_takeFirst_9 ml_X6_58 ke_X5_length (by first | assumption | rfl) (by decide) (by decide) (by simp [Value.category]) (c_length hf ?_)
    refine mOk.icge (tgt := 55) dX6_takeFirst_12 (by decide) (fun c12 => absurd c12 (mt (nI_le' (by omega) (by omega)).mp (by omega))) (fun c12 => ?_)
    refine mOk.aload2n dX6_takeFirst_15 rfl ?_
    refine mOk.iload5 dX6_takeFirst_16 ?_
    refine mOk.callV1 (M' := mX5_cell) dX6_takeFirst_18 ml_X6_62 ke_X5_cell (by first | assumption | rfl) (by decide) (by decide) (by simp [Value.category]) (c_cell_in hf (by omega) ?_)
    refine mOk.istore6 dX6_takeFirst_21 (by decide) rfl ?_
    refine mOk.aload1n dX6_takeFirst_23 rfl ?_
    refine mOk.iload6 dX6_takeFirst_24 ?_
    refine mOk.callV1 (M' := mX1_isBase) dX6_takeFirst_26 ml_X6_66 ke_X1_isBase (by first | assumption | rfl) (by decide) (by decide) (by simp [Value.category]) (c_isBase hc ?_)
    by_cases h0 : tC T (xs.getD i (-9)) = 0
    · rw [if_pos h0]
      refine mOk.ifeq (tgt := 35) dX6_takeFirst_29 (by decide) (fun c29 => absurd c29 ((by decide))) (fun c29 => ?_)
      refine mOk.iinc4 dX6_takeFirst_32 (mOk.inc1 rfl) (by decide) rfl ?_
      exact key (b + 1) (by rw [if_pos h0])
    · rw [if_neg h0]
      refine mOk.ifeq (tgt := 35) dX6_takeFirst_29 (by decide) (fun c29 => ?_) (fun c29 => absurd (rfl) c29)
      exact key b (by rw [if_neg h0, Nat.add_zero])
theorem c_first (hc : Cd I cb T) (hf : Rw I f fa fcap xs) (ht : Rw I t ta tcap []) (hdj : ∀ a ∈ cS cb, a ∉ [t, ta]) (hf1 : f ∉ [t, ta]) (hf2 : fa ∉ [t, ta]) (hfit : xs.length ≤ tcap) (hQ : ∀ I', Rw I' t ta tcap (fst1 T 0 xs) → Off [t, ta] I I' → Q none (hS sw I' J)) : mCl mX6_takeFirst 3 0 0 [.ref ru, .ref cb, .ref f, .ref t] (hS sw I J) Q := by
  refine mCl.of (by decide) rfl (Nat.le_of_ble_eq_true rfl) ?_
  show mOk _ _ _ _ _ [some (.ref ru), some (.ref cb), some (.ref f), some (.ref t), none, none, none] _ _ _ _ _
  refine mOk.iconst (x := nI 0) dX6_takeFirst_0 (by decide) ?_
  refine mOk.istore4 dX6_takeFirst_1 (by decide) rfl ?_
  refine mOk.iconst (x := nI 0) dX6_takeFirst_3 (by decide) ?_
  refine mOk.istore5 dX6_takeFirst_4 (by decide) rfl ?_
  exact l_first hdj hf1 hf2 hfit hQ xs.length 0 0 I _ [] (Nat.zero_add _) (by omega) rfl rfl hc hf ht Off.rf
theorem l_isSorted (hc : Cd I cb T) (hf : Rw I f fa fcap xs) (hQ : Q (some (.int (if srtd (tC T) xs = true then 1 else 0))) (hS sw I J)) :
    ∀ (m i : Nat) (l4 : Option Value), i + 1 + m = xs.length → srtd (tC T) xs = srtd (tC T) (xs.drop i) → mOk mX6_isSorted 3 0 0 2 [some (.ref ru), some (.ref cb), some (.ref f), some (.int (nI (i + 1))), l4] [] (hS sw I J) 0 0 Q := by
  obtain ⟨k0, -⟩ := cdK hc.1
  obtain ⟨f0, -⟩ := id hf.1
  have b1 := hf.1.2.2.2.1
  have b2 := hf.2.1
  intro m
  induction m with
  | zero =>
    intro i l4 hi hs
    refine mOk.iload3n dX6_isSorted_2 rfl ?_
    refine mOk.aload2n dX6_isSorted_3 rfl ?_
    refine mOk.callV0 (M' := mX5_length) dX6_isSorted_4 ml_X6_58 ke_X5_length (by first | assumption | rfl) (by decide) (by decide) (by simp [Value.category]) (c_length hf ?_)
    refine mOk.icge (tgt := 54) dX6_isSorted_7 (by decide) (fun c7 => ?_) (fun c7 => absurd ((nI_le' (by omega) (by omega)).mpr (by omega)) c7)
    refine mOk.iconst (x := 1) dX6_isSorted_54 (by decide) ?_
    refine mOk.zret dX6_isSorted_55 rfl (by decide) ?_
    rw [hs, drop_c (by omega), List.drop_of_length_le (by omega)] at hQ
    exact hQ
  | succ m ih =>
    intro i l4 hi hs
    rw [drop_c (by omega), drop_c (show i + 1 < xs.length by omega), srtd, ← drop_c (show i + 1 < xs.length by omega)] at hs
    refine mOk.iload3n dX6_isSorted_2 rfl ?_
    refine mOk.aload2n dX6_isSorted_3 rfl ?_
    refine mOk.callV0 (M' := mX5_length) dX6_isSorted_4 ml_X6_58 ke_X5_length (by first | assumption | rfl) (by decide) (by decide) (by simp [Value.category]) (c_length hf ?_)
    refine mOk.icge (tgt := 54) dX6_isSorted_7 (by decide) (fun c7 => absurd c7 (mt (nI_le' (by omega) (by omega)).mp (by omega))) (fun c7 => ?_)
    refine mOk.aload2n dX6_isSorted_10 rfl ?_
    refine mOk.iload3n dX6_isSorted_11 rfl ?_
    refine mOk.callV1 (M' := mX5_cell) dX6_isSorted_12 ml_X6_62 ke_X5_cell (by first | assumption | rfl) (by decide) (by decide) (by simp [Value.category]) (c_cell_in hf (by omega) ?_)
    refine mOk.istore4 dX6_isSorted_15 (by decide) rfl ?_
    refine mOk.aload1n dX6_isSorted_17 rfl ?_
    refine mOk.iload4 dX6_isSorted_18 ?_
    refine mOk.callV1 (M' := mX1_isBase) dX6_isSorted_20 ml_X6_66 ke_X1_isBase (by first | assumption | rfl) (by decide) (by decide) (by simp [Value.category]) (c_isBase hc ?_)
    by_cases h0 : tC T (xs.getD (i + 1) (-9)) = 0
    · rw [if_pos h0]
      refine mOk.ifne (tgt := 48) dX6_isSorted_23 (by decide) (fun c23 => ?_) (fun c23 => absurd c23 ((by decide)))
      refine mOk.iinc3 dX6_isSorted_48 (mOk.inc1 rfl) (by decide) rfl ?_
      refine mOk.goto (tgt := 2) dX6_isSorted_51 (by decide) ?_
      exact ih (i + 1) _ (by omega) (by rw [hs, decide_eq_true h0, Bool.true_or, Bool.true_and])
    · rw [if_neg h0]
      refine mOk.ifne (tgt := 48) dX6_isSorted_23 (by decide) (fun c23 => absurd (rfl) c23) (fun c23 => ?_)
      refine mOk.aload1n dX6_isSorted_26 rfl ?_
      refine mOk.aload2n dX6_isSorted_27 rfl ?_
      refine mOk.iload3n dX6_isSorted_28 rfl ?_
      refine mOk.iconst (x := nI 1) dX6_isSorted_29 (by decide) ?_
      refine mOk.isub dX6_isSorted_30 ?_
      refine mOk.top (nI_pred i) ?_
      refine mOk.callV1 (M' := mX5_cell) dX6_isSorted_31 ml_X6_62 ke_X5_cell (by first | assumption | rfl) (by decide) (by decide) (by simp [Value.category]) (c_cell_in hf (by omega) ?_)
      refine mOk.callV1 (M' := mX1_classOf) dX6_isSorted_34 ml_X6_72 ke_X1_classOf (by first | assumption | rfl) (by decide) (by decide) (by simp [Value.category]) (c_classOf hc ?_)
      refine mOk.aload1n dX6_isSorted_37 rfl ?_
      refine mOk.iload4 dX6_isSorted_38 ?_
      refine mOk.callV1 (M' := mX1_classOf) dX6_isSorted_40 ml_X6_72 ke_X1_classOf (by first | assumption | rfl) (by decide) (by decide) (by simp [Value.category]) (c_classOf hc ?_)
      refine mOk.icle (tgt := 48) dX6_isSorted_43 (by decide) (fun c43 => ?_) (fun c43 => ?_)
      · refine mOk.iinc3 dX6_isSorted_48 (mOk.inc1 rfl) (by decide) rfl ?_
        refine mOk.goto (tgt := 2) dX6_isSorted_51 (by decide) ?_
        exact ih (i + 1) _ (by omega) (by rw [hs, decide_eq_true c43, Bool.or_true, Bool.true_and])
      · refine mOk.iconst (x := 0) dX6_isSorted_46 (by decide) ?_
        refine mOk.zret dX6_isSorted_47 rfl (by decide) ?_
        rw [hs, decide_eq_false c43, decide_eq_false h0] at hQ
        exact hQ
theorem c_isSorted (hc : Cd I cb T) (hf : Rw I f fa fcap xs) (hQ : Q (some (.int (if srtd (tC T) xs = true then 1 else 0))) (hS sw I J)) : mCl mX6_isSorted 3 0 0 [.ref ru, .ref cb, .ref f] (hS sw I J) Q := by
  obtain ⟨f0, -⟩ := id hf.1
  refine mCl.of (by decide) rfl (Nat.le_of_ble_eq_true rfl) ?_
  show mOk _ _ _ _ _ [some (.ref ru), some (.ref cb), some (.ref f), none, none] _ _ _ _ _
  refine mOk.iconst (x := nI 1) dX6_isSorted_0 (by decide) ?_
  refine mOk.istore3n dX6_isSorted_1 rfl (by decide) rfl ?_
  cases xs with
  | nil =>
    refine mOk.iload3n dX6_isSorted_2 rfl ?_
    refine mOk.aload2n dX6_isSorted_3 rfl ?_
    refine mOk.callV0 (M' := mX5_length) dX6_isSorted_4 ml_X6_58 ke_X5_length (by first | assumption | rfl) (by decide) (by decide) (by simp [Value.category]) (c_length hf ?_)
    refine mOk.icge (tgt := 54) dX6_isSorted_7 (by decide) (fun c7 => ?_) (fun c7 => absurd ((by decide)) c7)
    refine mOk.iconst (x := 1) dX6_isSorted_54 (by decide) ?_
    refine mOk.zret dX6_isSorted_55 rfl (by decide) ?_
    exact hQ
  | cons x xs => exact l_isSorted hc hf hQ xs.length 0 none (by simp; omega) rfl
end RULES
end
