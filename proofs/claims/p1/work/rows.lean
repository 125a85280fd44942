section
-- ===== PART A: goes FIRST, ahead of the names: the tables' words, and 'selects' of the private methods out of them =====
/-- a private method of a class that the tables say can be made, by its rows of tables_1 -/
def lw_okq (q : MethodName × Nat) : Prop := (q.1.cls ≠ "java/lang/invoke/MethodHandle" ∧ q.1.cls ≠ "java/lang/invoke/VarHandle") ∧ Cond.instantiable q.1.cls q.2 ∈ tables_1 ∧ Cond.privateMethod q.1 ∈ tables_1 ∧ Cond.instanceMethod q.1 ∈ tables_1
theorem lw_p0 : lw_okq (⟨"OldestLaw$Reader", "lines", "()Z"⟩, 4) := ⟨⟨by decide +kernel, by decide +kernel⟩, List.mem_of_getElem? (i := 26) (by decide +kernel), List.mem_of_getElem? (i := 375) (by decide +kernel), List.mem_of_getElem? (i := 376) (by decide +kernel)⟩
theorem lw_p1 : lw_okq (⟨"OldestLaw$Reader", "line", "()Z"⟩, 4) := ⟨⟨by decide +kernel, by decide +kernel⟩, List.mem_of_getElem? (i := 26) (by decide +kernel), List.mem_of_getElem? (i := 379) (by decide +kernel), List.mem_of_getElem? (i := 380) (by decide +kernel)⟩
theorem lw_p2 : lw_okq (⟨"OldestLaw$Reader", "either", "(I)Z"⟩, 4) := ⟨⟨by decide +kernel, by decide +kernel⟩, List.mem_of_getElem? (i := 26) (by decide +kernel), List.mem_of_getElem? (i := 383) (by decide +kernel), List.mem_of_getElem? (i := 384) (by decide +kernel)⟩
theorem lw_p3 : lw_okq (⟨"OldestLaw$Reader", "both", "(I)Z"⟩, 4) := ⟨⟨by decide +kernel, by decide +kernel⟩, List.mem_of_getElem? (i := 26) (by decide +kernel), List.mem_of_getElem? (i := 387) (by decide +kernel), List.mem_of_getElem? (i := 388) (by decide +kernel)⟩
theorem lw_p4 : lw_okq (⟨"OldestLaw$Reader", "compared", "(I)Z"⟩, 4) := ⟨⟨by decide +kernel, by decide +kernel⟩, List.mem_of_getElem? (i := 26) (by decide +kernel), List.mem_of_getElem? (i := 391) (by decide +kernel), List.mem_of_getElem? (i := 392) (by decide +kernel)⟩
theorem lw_p5 : lw_okq (⟨"OldestLaw$Reader", "sum", "(I)Z"⟩, 4) := ⟨⟨by decide +kernel, by decide +kernel⟩, List.mem_of_getElem? (i := 26) (by decide +kernel), List.mem_of_getElem? (i := 395) (by decide +kernel), List.mem_of_getElem? (i := 396) (by decide +kernel)⟩
theorem lw_p6 : lw_okq (⟨"OldestLaw$Reader", "product", "(I)Z"⟩, 4) := ⟨⟨by decide +kernel, by decide +kernel⟩, List.mem_of_getElem? (i := 26) (by decide +kernel), List.mem_of_getElem? (i := 399) (by decide +kernel), List.mem_of_getElem? (i := 400) (by decide +kernel)⟩
theorem lw_p7 : lw_okq (⟨"OldestLaw$Reader", "operand", "(I)Z"⟩, 4) := ⟨⟨by decide +kernel, by decide +kernel⟩, List.mem_of_getElem? (i := 26) (by decide +kernel), List.mem_of_getElem? (i := 403) (by decide +kernel), List.mem_of_getElem? (i := 404) (by decide +kernel)⟩
theorem lw_p8 : lw_okq (⟨"OldestLaw$Reader", "letterHere", "()I"⟩, 4) := ⟨⟨by decide +kernel, by decide +kernel⟩, List.mem_of_getElem? (i := 26) (by decide +kernel), List.mem_of_getElem? (i := 407) (by decide +kernel), List.mem_of_getElem? (i := 408) (by decide +kernel)⟩
theorem lw_p9 : lw_okq (⟨"OldestLaw$Reader", "number", "()V"⟩, 4) := ⟨⟨by decide +kernel, by decide +kernel⟩, List.mem_of_getElem? (i := 26) (by decide +kernel), List.mem_of_getElem? (i := 421) (by decide +kernel), List.mem_of_getElem? (i := 422) (by decide +kernel)⟩
theorem lw_p10 : lw_okq (⟨"OldestLaw$Reader", "comes", "(I)Z"⟩, 4) := ⟨⟨by decide +kernel, by decide +kernel⟩, List.mem_of_getElem? (i := 26) (by decide +kernel), List.mem_of_getElem? (i := 425) (by decide +kernel), List.mem_of_getElem? (i := 426) (by decide +kernel)⟩
theorem lw_p11 : lw_okq (⟨"OldestLaw", "shelfAt", "(I)LOldestLaw$Shelf;"⟩, 12) := ⟨⟨by decide +kernel, by decide +kernel⟩, List.mem_of_getElem? (i := 18) (by decide +kernel), List.mem_of_getElem? (i := 458) (by decide +kernel), List.mem_of_getElem? (i := 459) (by decide +kernel)⟩
theorem lw_p12 : lw_okq (⟨"OldestLaw", "cameFromSix", "(LOldestLaw$Shelf;I)Z"⟩, 12) := ⟨⟨by decide +kernel, by decide +kernel⟩, List.mem_of_getElem? (i := 18) (by decide +kernel), List.mem_of_getElem? (i := 466) (by decide +kernel), List.mem_of_getElem? (i := 467) (by decide +kernel)⟩
theorem lw_p13 : lw_okq (⟨"OldestLaw", "mayBecome", "(III)Z"⟩, 12) := ⟨⟨by decide +kernel, by decide +kernel⟩, List.mem_of_getElem? (i := 18) (by decide +kernel), List.mem_of_getElem? (i := 484) (by decide +kernel), List.mem_of_getElem? (i := 485) (by decide +kernel)⟩
theorem lw_p14 : lw_okq (⟨"OldestLaw$Changes", "dropFirst", "()V"⟩, 6) := ⟨⟨by decide +kernel, by decide +kernel⟩, List.mem_of_getElem? (i := 198) (by decide +kernel), List.mem_of_getElem? (i := 504) (by decide +kernel), List.mem_of_getElem? (i := 505) (by decide +kernel)⟩
theorem lw_p15 : lw_okq (⟨"OldestLaw", "ofLaw", "(II)I"⟩, 12) := ⟨⟨by decide +kernel, by decide +kernel⟩, List.mem_of_getElem? (i := 18) (by decide +kernel), List.mem_of_getElem? (i := 525) (by decide +kernel), List.mem_of_getElem? (i := 526) (by decide +kernel)⟩
def lw_privs_1 : List (MethodName × Nat) := [(⟨"OldestLaw$Reader", "lines", "()Z"⟩, 4), (⟨"OldestLaw$Reader", "line", "()Z"⟩, 4), (⟨"OldestLaw$Reader", "either", "(I)Z"⟩, 4), (⟨"OldestLaw$Reader", "both", "(I)Z"⟩, 4), (⟨"OldestLaw$Reader", "compared", "(I)Z"⟩, 4), (⟨"OldestLaw$Reader", "sum", "(I)Z"⟩, 4), (⟨"OldestLaw$Reader", "product", "(I)Z"⟩, 4), (⟨"OldestLaw$Reader", "operand", "(I)Z"⟩, 4), (⟨"OldestLaw$Reader", "letterHere", "()I"⟩, 4), (⟨"OldestLaw$Reader", "number", "()V"⟩, 4), (⟨"OldestLaw$Reader", "comes", "(I)Z"⟩, 4), (⟨"OldestLaw", "shelfAt", "(I)LOldestLaw$Shelf;"⟩, 12), (⟨"OldestLaw", "cameFromSix", "(LOldestLaw$Shelf;I)Z"⟩, 12), (⟨"OldestLaw", "mayBecome", "(III)Z"⟩, 12), (⟨"OldestLaw$Changes", "dropFirst", "()V"⟩, 6), (⟨"OldestLaw", "ofLaw", "(II)I"⟩, 12)]
theorem lw_r1 : ∀ q ∈ lw_privs_1, lw_okq q := List.forall_mem_cons.mpr ⟨lw_p0, List.forall_mem_cons.mpr ⟨lw_p1, List.forall_mem_cons.mpr ⟨lw_p2, List.forall_mem_cons.mpr ⟨lw_p3, List.forall_mem_cons.mpr ⟨lw_p4, List.forall_mem_cons.mpr ⟨lw_p5, List.forall_mem_cons.mpr ⟨lw_p6, List.forall_mem_cons.mpr ⟨lw_p7, List.forall_mem_cons.mpr ⟨lw_p8, List.forall_mem_cons.mpr ⟨lw_p9, List.forall_mem_cons.mpr ⟨lw_p10, List.forall_mem_cons.mpr ⟨lw_p11, List.forall_mem_cons.mpr ⟨lw_p12, List.forall_mem_cons.mpr ⟨lw_p13, List.forall_mem_cons.mpr ⟨lw_p14, List.forall_mem_cons.mpr ⟨lw_p15, fun _ h => absurd h List.not_mem_nil⟩⟩⟩⟩⟩⟩⟩⟩⟩⟩⟩⟩⟩⟩⟩⟩
theorem lw_p16 : lw_okq (⟨"OldestLaw$Text", "valueAt", "(I)I"⟩, 3) := ⟨⟨by decide +kernel, by decide +kernel⟩, List.mem_of_getElem? (i := 32) (by decide +kernel), List.mem_of_getElem? (i := 566) (by decide +kernel), List.mem_of_getElem? (i := 567) (by decide +kernel)⟩
theorem lw_p17 : lw_okq (⟨"OldestLaw$Text", "work", "(II)I"⟩, 3) := ⟨⟨by decide +kernel, by decide +kernel⟩, List.mem_of_getElem? (i := 32) (by decide +kernel), List.mem_of_getElem? (i := 570) (by decide +kernel), List.mem_of_getElem? (i := 571) (by decide +kernel)⟩
theorem lw_p18 : lw_okq (⟨"OldestLaw$Court", "sortByAge", "()V"⟩, 10) := ⟨⟨by decide +kernel, by decide +kernel⟩, List.mem_of_getElem? (i := 63) (by decide +kernel), List.mem_of_getElem? (i := 590) (by decide +kernel), List.mem_of_getElem? (i := 591) (by decide +kernel)⟩
theorem lw_p19 : lw_okq (⟨"OldestLaw$Law", "hardness", "()I"⟩, 12) := ⟨⟨by decide +kernel, by decide +kernel⟩, List.mem_of_getElem? (i := 89) (by decide +kernel), List.mem_of_getElem? (i := 650) (by decide +kernel), List.mem_of_getElem? (i := 651) (by decide +kernel)⟩
theorem lw_p20 : lw_okq (⟨"OldestLaw", "refusalOfTold", "(I)I"⟩, 12) := ⟨⟨by decide +kernel, by decide +kernel⟩, List.mem_of_getElem? (i := 18) (by decide +kernel), List.mem_of_getElem? (i := 662) (by decide +kernel), List.mem_of_getElem? (i := 663) (by decide +kernel)⟩
theorem lw_p21 : lw_okq (⟨"OldestLaw", "refusalOfNew", "(III)I"⟩, 12) := ⟨⟨by decide +kernel, by decide +kernel⟩, List.mem_of_getElem? (i := 18) (by decide +kernel), List.mem_of_getElem? (i := 732) (by decide +kernel), List.mem_of_getElem? (i := 733) (by decide +kernel)⟩
theorem lw_p22 : lw_okq (⟨"OldestLaw$Wordings", "metBy", "(I)LOldestLaw$Cases;"⟩, 6) := ⟨⟨by decide +kernel, by decide +kernel⟩, List.mem_of_getElem? (i := 224) (by decide +kernel), List.mem_of_getElem? (i := 747) (by decide +kernel), List.mem_of_getElem? (i := 748) (by decide +kernel)⟩
theorem lw_p23 : lw_okq (⟨"OldestLaw$Wordings", "begin", "()V"⟩, 6) := ⟨⟨by decide +kernel, by decide +kernel⟩, List.mem_of_getElem? (i := 224) (by decide +kernel), List.mem_of_getElem? (i := 764) (by decide +kernel), List.mem_of_getElem? (i := 765) (by decide +kernel)⟩
theorem lw_p24 : lw_okq (⟨"OldestLaw$Wordings", "word", "()V"⟩, 6) := ⟨⟨by decide +kernel, by decide +kernel⟩, List.mem_of_getElem? (i := 224) (by decide +kernel), List.mem_of_getElem? (i := 768) (by decide +kernel), List.mem_of_getElem? (i := 769) (by decide +kernel)⟩
theorem lw_p25 : lw_okq (⟨"OldestLaw$Wordings", "fits", "(LOldestLaw$Shelf;LOldestLaw$Court;)Z"⟩, 6) := ⟨⟨by decide +kernel, by decide +kernel⟩, List.mem_of_getElem? (i := 224) (by decide +kernel), List.mem_of_getElem? (i := 773) (by decide +kernel), List.mem_of_getElem? (i := 774) (by decide +kernel)⟩
theorem lw_p26 : lw_okq (⟨"OldestLaw$Wordings", "wouldHold", "(ILOldestLaw$Law;I)Z"⟩, 6) := ⟨⟨by decide +kernel, by decide +kernel⟩, List.mem_of_getElem? (i := 224) (by decide +kernel), List.mem_of_getElem? (i := 778) (by decide +kernel), List.mem_of_getElem? (i := 779) (by decide +kernel)⟩
theorem lw_p27 : lw_okq (⟨"OldestLaw$Wordings", "number", "()I"⟩, 6) := ⟨⟨by decide +kernel, by decide +kernel⟩, List.mem_of_getElem? (i := 224) (by decide +kernel), List.mem_of_getElem? (i := 786) (by decide +kernel), List.mem_of_getElem? (i := 787) (by decide +kernel)⟩
theorem lw_p28 : lw_okq (⟨"OldestLaw$Wordings", "goOn", "()V"⟩, 6) := ⟨⟨by decide +kernel, by decide +kernel⟩, List.mem_of_getElem? (i := 224) (by decide +kernel), List.mem_of_getElem? (i := 790) (by decide +kernel), List.mem_of_getElem? (i := 791) (by decide +kernel)⟩
theorem lw_p29 : lw_okq (⟨"OldestLaw$Wordings", "isBarred", "(LOldestLaw$Shelf;ILOldestLaw$Law;I)Z"⟩, 6) := ⟨⟨by decide +kernel, by decide +kernel⟩, List.mem_of_getElem? (i := 224) (by decide +kernel), List.mem_of_getElem? (i := 803) (by decide +kernel), List.mem_of_getElem? (i := 804) (by decide +kernel)⟩
theorem lw_p30 : lw_okq (⟨"OldestLaw$Wordings", "mightHold", "(ILOldestLaw$Law;I)Z"⟩, 6) := ⟨⟨by decide +kernel, by decide +kernel⟩, List.mem_of_getElem? (i := 224) (by decide +kernel), List.mem_of_getElem? (i := 807) (by decide +kernel), List.mem_of_getElem? (i := 808) (by decide +kernel)⟩
theorem lw_p31 : lw_okq (⟨"OldestLaw$Clauses", "own", "(IIII)I"⟩, 4) := ⟨⟨by decide +kernel, by decide +kernel⟩, List.mem_of_getElem? (i := 260) (by decide +kernel), List.mem_of_getElem? (i := 948) (by decide +kernel), List.mem_of_getElem? (i := 949) (by decide +kernel)⟩
def lw_privs_2 : List (MethodName × Nat) := [(⟨"OldestLaw$Text", "valueAt", "(I)I"⟩, 3), (⟨"OldestLaw$Text", "work", "(II)I"⟩, 3), (⟨"OldestLaw$Court", "sortByAge", "()V"⟩, 10), (⟨"OldestLaw$Law", "hardness", "()I"⟩, 12), (⟨"OldestLaw", "refusalOfTold", "(I)I"⟩, 12), (⟨"OldestLaw", "refusalOfNew", "(III)I"⟩, 12), (⟨"OldestLaw$Wordings", "metBy", "(I)LOldestLaw$Cases;"⟩, 6), (⟨"OldestLaw$Wordings", "begin", "()V"⟩, 6), (⟨"OldestLaw$Wordings", "word", "()V"⟩, 6), (⟨"OldestLaw$Wordings", "fits", "(LOldestLaw$Shelf;LOldestLaw$Court;)Z"⟩, 6), (⟨"OldestLaw$Wordings", "wouldHold", "(ILOldestLaw$Law;I)Z"⟩, 6), (⟨"OldestLaw$Wordings", "number", "()I"⟩, 6), (⟨"OldestLaw$Wordings", "goOn", "()V"⟩, 6), (⟨"OldestLaw$Wordings", "isBarred", "(LOldestLaw$Shelf;ILOldestLaw$Law;I)Z"⟩, 6), (⟨"OldestLaw$Wordings", "mightHold", "(ILOldestLaw$Law;I)Z"⟩, 6), (⟨"OldestLaw$Clauses", "own", "(IIII)I"⟩, 4)]
theorem lw_r2 : ∀ q ∈ lw_privs_2, lw_okq q := List.forall_mem_cons.mpr ⟨lw_p16, List.forall_mem_cons.mpr ⟨lw_p17, List.forall_mem_cons.mpr ⟨lw_p18, List.forall_mem_cons.mpr ⟨lw_p19, List.forall_mem_cons.mpr ⟨lw_p20, List.forall_mem_cons.mpr ⟨lw_p21, List.forall_mem_cons.mpr ⟨lw_p22, List.forall_mem_cons.mpr ⟨lw_p23, List.forall_mem_cons.mpr ⟨lw_p24, List.forall_mem_cons.mpr ⟨lw_p25, List.forall_mem_cons.mpr ⟨lw_p26, List.forall_mem_cons.mpr ⟨lw_p27, List.forall_mem_cons.mpr ⟨lw_p28, List.forall_mem_cons.mpr ⟨lw_p29, List.forall_mem_cons.mpr ⟨lw_p30, List.forall_mem_cons.mpr ⟨lw_p31, fun _ h => absurd h List.not_mem_nil⟩⟩⟩⟩⟩⟩⟩⟩⟩⟩⟩⟩⟩⟩⟩⟩
theorem lw_p32 : lw_okq (⟨"OldestLaw$Clauses", "from", "(IIIII)I"⟩, 4) := ⟨⟨by decide +kernel, by decide +kernel⟩, List.mem_of_getElem? (i := 260) (by decide +kernel), List.mem_of_getElem? (i := 956) (by decide +kernel), List.mem_of_getElem? (i := 957) (by decide +kernel)⟩
theorem lw_p33 : lw_okq (⟨"OldestLaw$Clauses", "note", "(I)V"⟩, 4) := ⟨⟨by decide +kernel, by decide +kernel⟩, List.mem_of_getElem? (i := 260) (by decide +kernel), List.mem_of_getElem? (i := 970) (by decide +kernel), List.mem_of_getElem? (i := 971) (by decide +kernel)⟩
theorem lw_p34 : lw_okq (⟨"OldestLaw$Clauses", "atTop", "(IIII)I"⟩, 4) := ⟨⟨by decide +kernel, by decide +kernel⟩, List.mem_of_getElem? (i := 260) (by decide +kernel), List.mem_of_getElem? (i := 974) (by decide +kernel), List.mem_of_getElem? (i := 975) (by decide +kernel)⟩
theorem lw_p35 : lw_okq (⟨"OldestLaw$Clauses", "changed", "(IIII)I"⟩, 4) := ⟨⟨by decide +kernel, by decide +kernel⟩, List.mem_of_getElem? (i := 260) (by decide +kernel), List.mem_of_getElem? (i := 978) (by decide +kernel), List.mem_of_getElem? (i := 979) (by decide +kernel)⟩
theorem lw_p36 : lw_okq (⟨"OldestLaw", "refusalOfElement", "(II)I"⟩, 12) := ⟨⟨by decide +kernel, by decide +kernel⟩, List.mem_of_getElem? (i := 18) (by decide +kernel), List.mem_of_getElem? (i := 1018) (by decide +kernel), List.mem_of_getElem? (i := 1019) (by decide +kernel)⟩
theorem lw_p37 : lw_okq (⟨"OldestLaw$Shelf", "cut", "(J)J"⟩, 4) := ⟨⟨by decide +kernel, by decide +kernel⟩, List.mem_of_getElem? (i := 282) (by decide +kernel), List.mem_of_getElem? (i := 1035) (by decide +kernel), List.mem_of_getElem? (i := 1036) (by decide +kernel)⟩
theorem lw_p38 : lw_okq (⟨"OldestLawModel", "readText", "(I)I"⟩, 50) := ⟨⟨by decide +kernel, by decide +kernel⟩, List.mem_of_getElem? (i := 1067) (by decide +kernel), List.mem_of_getElem? (i := 1237) (by decide +kernel), List.mem_of_getElem? (i := 1238) (by decide +kernel)⟩
theorem lw_p39 : lw_okq (⟨"OldestLawModel", "line", "()V"⟩, 50) := ⟨⟨by decide +kernel, by decide +kernel⟩, List.mem_of_getElem? (i := 1067) (by decide +kernel), List.mem_of_getElem? (i := 1241) (by decide +kernel), List.mem_of_getElem? (i := 1242) (by decide +kernel)⟩
theorem lw_p40 : lw_okq (⟨"OldestLawModel", "either", "()V"⟩, 50) := ⟨⟨by decide +kernel, by decide +kernel⟩, List.mem_of_getElem? (i := 1067) (by decide +kernel), List.mem_of_getElem? (i := 1245) (by decide +kernel), List.mem_of_getElem? (i := 1246) (by decide +kernel)⟩
theorem lw_p41 : lw_okq (⟨"OldestLawModel", "both", "()V"⟩, 50) := ⟨⟨by decide +kernel, by decide +kernel⟩, List.mem_of_getElem? (i := 1067) (by decide +kernel), List.mem_of_getElem? (i := 1249) (by decide +kernel), List.mem_of_getElem? (i := 1250) (by decide +kernel)⟩
theorem lw_p42 : lw_okq (⟨"OldestLawModel", "compared", "()V"⟩, 50) := ⟨⟨by decide +kernel, by decide +kernel⟩, List.mem_of_getElem? (i := 1067) (by decide +kernel), List.mem_of_getElem? (i := 1253) (by decide +kernel), List.mem_of_getElem? (i := 1254) (by decide +kernel)⟩
theorem lw_p43 : lw_okq (⟨"OldestLawModel", "sum", "()V"⟩, 50) := ⟨⟨by decide +kernel, by decide +kernel⟩, List.mem_of_getElem? (i := 1067) (by decide +kernel), List.mem_of_getElem? (i := 1257) (by decide +kernel), List.mem_of_getElem? (i := 1258) (by decide +kernel)⟩
theorem lw_p44 : lw_okq (⟨"OldestLawModel", "product", "()V"⟩, 50) := ⟨⟨by decide +kernel, by decide +kernel⟩, List.mem_of_getElem? (i := 1067) (by decide +kernel), List.mem_of_getElem? (i := 1261) (by decide +kernel), List.mem_of_getElem? (i := 1262) (by decide +kernel)⟩
theorem lw_p45 : lw_okq (⟨"OldestLawModel", "operand", "()V"⟩, 50) := ⟨⟨by decide +kernel, by decide +kernel⟩, List.mem_of_getElem? (i := 1067) (by decide +kernel), List.mem_of_getElem? (i := 1265) (by decide +kernel), List.mem_of_getElem? (i := 1266) (by decide +kernel)⟩
theorem lw_p46 : lw_okq (⟨"OldestLawModel", "look", "()I"⟩, 50) := ⟨⟨by decide +kernel, by decide +kernel⟩, List.mem_of_getElem? (i := 1067) (by decide +kernel), List.mem_of_getElem? (i := 1269) (by decide +kernel), List.mem_of_getElem? (i := 1270) (by decide +kernel)⟩
theorem lw_p47 : lw_okq (⟨"OldestLawModel", "addStep", "(II)V"⟩, 50) := ⟨⟨by decide +kernel, by decide +kernel⟩, List.mem_of_getElem? (i := 1067) (by decide +kernel), List.mem_of_getElem? (i := 1276) (by decide +kernel), List.mem_of_getElem? (i := 1277) (by decide +kernel)⟩
def lw_privs_3 : List (MethodName × Nat) := [(⟨"OldestLaw$Clauses", "from", "(IIIII)I"⟩, 4), (⟨"OldestLaw$Clauses", "note", "(I)V"⟩, 4), (⟨"OldestLaw$Clauses", "atTop", "(IIII)I"⟩, 4), (⟨"OldestLaw$Clauses", "changed", "(IIII)I"⟩, 4), (⟨"OldestLaw", "refusalOfElement", "(II)I"⟩, 12), (⟨"OldestLaw$Shelf", "cut", "(J)J"⟩, 4), (⟨"OldestLawModel", "readText", "(I)I"⟩, 50), (⟨"OldestLawModel", "line", "()V"⟩, 50), (⟨"OldestLawModel", "either", "()V"⟩, 50), (⟨"OldestLawModel", "both", "()V"⟩, 50), (⟨"OldestLawModel", "compared", "()V"⟩, 50), (⟨"OldestLawModel", "sum", "()V"⟩, 50), (⟨"OldestLawModel", "product", "()V"⟩, 50), (⟨"OldestLawModel", "operand", "()V"⟩, 50), (⟨"OldestLawModel", "look", "()I"⟩, 50), (⟨"OldestLawModel", "addStep", "(II)V"⟩, 50)]
theorem lw_r3 : ∀ q ∈ lw_privs_3, lw_okq q := List.forall_mem_cons.mpr ⟨lw_p32, List.forall_mem_cons.mpr ⟨lw_p33, List.forall_mem_cons.mpr ⟨lw_p34, List.forall_mem_cons.mpr ⟨lw_p35, List.forall_mem_cons.mpr ⟨lw_p36, List.forall_mem_cons.mpr ⟨lw_p37, List.forall_mem_cons.mpr ⟨lw_p38, List.forall_mem_cons.mpr ⟨lw_p39, List.forall_mem_cons.mpr ⟨lw_p40, List.forall_mem_cons.mpr ⟨lw_p41, List.forall_mem_cons.mpr ⟨lw_p42, List.forall_mem_cons.mpr ⟨lw_p43, List.forall_mem_cons.mpr ⟨lw_p44, List.forall_mem_cons.mpr ⟨lw_p45, List.forall_mem_cons.mpr ⟨lw_p46, List.forall_mem_cons.mpr ⟨lw_p47, fun _ h => absurd h List.not_mem_nil⟩⟩⟩⟩⟩⟩⟩⟩⟩⟩⟩⟩⟩⟩⟩⟩
theorem lw_p48 : lw_okq (⟨"OldestLawModel", "opens", "()Z"⟩, 50) := ⟨⟨by decide +kernel, by decide +kernel⟩, List.mem_of_getElem? (i := 1067) (by decide +kernel), List.mem_of_getElem? (i := 1280) (by decide +kernel), List.mem_of_getElem? (i := 1281) (by decide +kernel)⟩
theorem lw_p49 : lw_okq (⟨"OldestLawModel", "faulty", "()V"⟩, 50) := ⟨⟨by decide +kernel, by decide +kernel⟩, List.mem_of_getElem? (i := 1067) (by decide +kernel), List.mem_of_getElem? (i := 1284) (by decide +kernel), List.mem_of_getElem? (i := 1285) (by decide +kernel)⟩
theorem lw_p50 : lw_okq (⟨"OldestLawModel", "figure", "()V"⟩, 50) := ⟨⟨by decide +kernel, by decide +kernel⟩, List.mem_of_getElem? (i := 1067) (by decide +kernel), List.mem_of_getElem? (i := 1288) (by decide +kernel), List.mem_of_getElem? (i := 1289) (by decide +kernel)⟩
theorem lw_p51 : lw_okq (⟨"OldestLawModel", "addLaw", "(III)I"⟩, 50) := ⟨⟨by decide +kernel, by decide +kernel⟩, List.mem_of_getElem? (i := 1067) (by decide +kernel), List.mem_of_getElem? (i := 1292) (by decide +kernel), List.mem_of_getElem? (i := 1293) (by decide +kernel)⟩
theorem lw_p52 : lw_okq (⟨"OldestLawModel", "isLawRow", "(I)Z"⟩, 50) := ⟨⟨by decide +kernel, by decide +kernel⟩, List.mem_of_getElem? (i := 1067) (by decide +kernel), List.mem_of_getElem? (i := 1304) (by decide +kernel), List.mem_of_getElem? (i := 1305) (by decide +kernel)⟩
theorem lw_p53 : lw_okq (⟨"OldestLawModel", "writeText", "(III)V"⟩, 50) := ⟨⟨by decide +kernel, by decide +kernel⟩, List.mem_of_getElem? (i := 1067) (by decide +kernel), List.mem_of_getElem? (i := 1308) (by decide +kernel), List.mem_of_getElem? (i := 1309) (by decide +kernel)⟩
theorem lw_p54 : lw_okq (⟨"OldestLawModel", "lays", "(III)V"⟩, 50) := ⟨⟨by decide +kernel, by decide +kernel⟩, List.mem_of_getElem? (i := 1067) (by decide +kernel), List.mem_of_getElem? (i := 1316) (by decide +kernel), List.mem_of_getElem? (i := 1317) (by decide +kernel)⟩
theorem lw_p55 : lw_okq (⟨"OldestLawModel", "isLaw", "(I)Z"⟩, 50) := ⟨⟨by decide +kernel, by decide +kernel⟩, List.mem_of_getElem? (i := 1067) (by decide +kernel), List.mem_of_getElem? (i := 1328) (by decide +kernel), List.mem_of_getElem? (i := 1329) (by decide +kernel)⟩
theorem lw_p56 : lw_okq (⟨"OldestLawModel", "changes", "(III)I"⟩, 50) := ⟨⟨by decide +kernel, by decide +kernel⟩, List.mem_of_getElem? (i := 1067) (by decide +kernel), List.mem_of_getElem? (i := 1332) (by decide +kernel), List.mem_of_getElem? (i := 1333) (by decide +kernel)⟩
theorem lw_p57 : lw_okq (⟨"OldestLawModel", "valueAt", "(II)I"⟩, 50) := ⟨⟨by decide +kernel, by decide +kernel⟩, List.mem_of_getElem? (i := 1067) (by decide +kernel), List.mem_of_getElem? (i := 1336) (by decide +kernel), List.mem_of_getElem? (i := 1337) (by decide +kernel)⟩
theorem lw_p58 : lw_okq (⟨"OldestLawModel", "meaning", "(I)I"⟩, 50) := ⟨⟨by decide +kernel, by decide +kernel⟩, List.mem_of_getElem? (i := 1067) (by decide +kernel), List.mem_of_getElem? (i := 1349) (by decide +kernel), List.mem_of_getElem? (i := 1350) (by decide +kernel)⟩
theorem lw_p59 : lw_okq (⟨"OldestLawModel", "findAll", "()V"⟩, 50) := ⟨⟨by decide +kernel, by decide +kernel⟩, List.mem_of_getElem? (i := 1067) (by decide +kernel), List.mem_of_getElem? (i := 1353) (by decide +kernel), List.mem_of_getElem? (i := 1354) (by decide +kernel)⟩
theorem lw_p60 : lw_okq (⟨"OldestLawModel", "findSpeaks", "()V"⟩, 50) := ⟨⟨by decide +kernel, by decide +kernel⟩, List.mem_of_getElem? (i := 1067) (by decide +kernel), List.mem_of_getElem? (i := 1357) (by decide +kernel), List.mem_of_getElem? (i := 1358) (by decide +kernel)⟩
theorem lw_p61 : lw_okq (⟨"OldestLawModel", "doesSpeak", "(II)Z"⟩, 50) := ⟨⟨by decide +kernel, by decide +kernel⟩, List.mem_of_getElem? (i := 1067) (by decide +kernel), List.mem_of_getElem? (i := 1361) (by decide +kernel), List.mem_of_getElem? (i := 1362) (by decide +kernel)⟩
theorem lw_p62 : lw_okq (⟨"OldestLawModel", "gives", "(I)I"⟩, 50) := ⟨⟨by decide +kernel, by decide +kernel⟩, List.mem_of_getElem? (i := 1067) (by decide +kernel), List.mem_of_getElem? (i := 1368) (by decide +kernel), List.mem_of_getElem? (i := 1369) (by decide +kernel)⟩
theorem lw_p63 : lw_okq (⟨"OldestLawModel", "worked", "(III)I"⟩, 50) := ⟨⟨by decide +kernel, by decide +kernel⟩, List.mem_of_getElem? (i := 1067) (by decide +kernel), List.mem_of_getElem? (i := 1372) (by decide +kernel), List.mem_of_getElem? (i := 1373) (by decide +kernel)⟩
def lw_privs_4 : List (MethodName × Nat) := [(⟨"OldestLawModel", "opens", "()Z"⟩, 50), (⟨"OldestLawModel", "faulty", "()V"⟩, 50), (⟨"OldestLawModel", "figure", "()V"⟩, 50), (⟨"OldestLawModel", "addLaw", "(III)I"⟩, 50), (⟨"OldestLawModel", "isLawRow", "(I)Z"⟩, 50), (⟨"OldestLawModel", "writeText", "(III)V"⟩, 50), (⟨"OldestLawModel", "lays", "(III)V"⟩, 50), (⟨"OldestLawModel", "isLaw", "(I)Z"⟩, 50), (⟨"OldestLawModel", "changes", "(III)I"⟩, 50), (⟨"OldestLawModel", "valueAt", "(II)I"⟩, 50), (⟨"OldestLawModel", "meaning", "(I)I"⟩, 50), (⟨"OldestLawModel", "findAll", "()V"⟩, 50), (⟨"OldestLawModel", "findSpeaks", "()V"⟩, 50), (⟨"OldestLawModel", "doesSpeak", "(II)Z"⟩, 50), (⟨"OldestLawModel", "gives", "(I)I"⟩, 50), (⟨"OldestLawModel", "worked", "(III)I"⟩, 50)]
theorem lw_r4 : ∀ q ∈ lw_privs_4, lw_okq q := List.forall_mem_cons.mpr ⟨lw_p48, List.forall_mem_cons.mpr ⟨lw_p49, List.forall_mem_cons.mpr ⟨lw_p50, List.forall_mem_cons.mpr ⟨lw_p51, List.forall_mem_cons.mpr ⟨lw_p52, List.forall_mem_cons.mpr ⟨lw_p53, List.forall_mem_cons.mpr ⟨lw_p54, List.forall_mem_cons.mpr ⟨lw_p55, List.forall_mem_cons.mpr ⟨lw_p56, List.forall_mem_cons.mpr ⟨lw_p57, List.forall_mem_cons.mpr ⟨lw_p58, List.forall_mem_cons.mpr ⟨lw_p59, List.forall_mem_cons.mpr ⟨lw_p60, List.forall_mem_cons.mpr ⟨lw_p61, List.forall_mem_cons.mpr ⟨lw_p62, List.forall_mem_cons.mpr ⟨lw_p63, fun _ h => absurd h List.not_mem_nil⟩⟩⟩⟩⟩⟩⟩⟩⟩⟩⟩⟩⟩⟩⟩⟩
theorem lw_p64 : lw_okq (⟨"OldestLawModel", "findStands", "(II)V"⟩, 50) := ⟨⟨by decide +kernel, by decide +kernel⟩, List.mem_of_getElem? (i := 1067) (by decide +kernel), List.mem_of_getElem? (i := 1379) (by decide +kernel), List.mem_of_getElem? (i := 1380) (by decide +kernel)⟩
theorem lw_p65 : lw_okq (⟨"OldestLawModel", "isOlder", "(II)Z"⟩, 50) := ⟨⟨by decide +kernel, by decide +kernel⟩, List.mem_of_getElem? (i := 1067) (by decide +kernel), List.mem_of_getElem? (i := 1383) (by decide +kernel), List.mem_of_getElem? (i := 1384) (by decide +kernel)⟩
theorem lw_p66 : lw_okq (⟨"OldestLawModel", "order", "(I)I"⟩, 50) := ⟨⟨by decide +kernel, by decide +kernel⟩, List.mem_of_getElem? (i := 1067) (by decide +kernel), List.mem_of_getElem? (i := 1387) (by decide +kernel), List.mem_of_getElem? (i := 1388) (by decide +kernel)⟩
theorem lw_p67 : lw_okq (⟨"OldestLawModel", "isIn", "(I)Z"⟩, 50) := ⟨⟨by decide +kernel, by decide +kernel⟩, List.mem_of_getElem? (i := 1067) (by decide +kernel), List.mem_of_getElem? (i := 1391) (by decide +kernel), List.mem_of_getElem? (i := 1392) (by decide +kernel)⟩
theorem lw_p68 : lw_okq (⟨"OldestLawModel", "isThere", "(I)Z"⟩, 50) := ⟨⟨by decide +kernel, by decide +kernel⟩, List.mem_of_getElem? (i := 1067) (by decide +kernel), List.mem_of_getElem? (i := 1395) (by decide +kernel), List.mem_of_getElem? (i := 1396) (by decide +kernel)⟩
theorem lw_p69 : lw_okq (⟨"OldestLawModel", "holder", "(II)I"⟩, 50) := ⟨⟨by decide +kernel, by decide +kernel⟩, List.mem_of_getElem? (i := 1067) (by decide +kernel), List.mem_of_getElem? (i := 1413) (by decide +kernel), List.mem_of_getElem? (i := 1414) (by decide +kernel)⟩
theorem lw_p70 : lw_okq (⟨"OldestLawModel", "isAhead", "(III)Z"⟩, 50) := ⟨⟨by decide +kernel, by decide +kernel⟩, List.mem_of_getElem? (i := 1067) (by decide +kernel), List.mem_of_getElem? (i := 1417) (by decide +kernel), List.mem_of_getElem? (i := 1418) (by decide +kernel)⟩
theorem lw_p71 : lw_okq (⟨"OldestLawModel", "rowFault", "(I)I"⟩, 50) := ⟨⟨by decide +kernel, by decide +kernel⟩, List.mem_of_getElem? (i := 1067) (by decide +kernel), List.mem_of_getElem? (i := 1428) (by decide +kernel), List.mem_of_getElem? (i := 1429) (by decide +kernel)⟩
theorem lw_p72 : lw_okq (⟨"OldestLawModel", "wrongIn", "(I)I"⟩, 50) := ⟨⟨by decide +kernel, by decide +kernel⟩, List.mem_of_getElem? (i := 1067) (by decide +kernel), List.mem_of_getElem? (i := 1432) (by decide +kernel), List.mem_of_getElem? (i := 1433) (by decide +kernel)⟩
theorem lw_p73 : lw_okq (⟨"OldestLawModel", "isTwo", "(II)Z"⟩, 50) := ⟨⟨by decide +kernel, by decide +kernel⟩, List.mem_of_getElem? (i := 1067) (by decide +kernel), List.mem_of_getElem? (i := 1436) (by decide +kernel), List.mem_of_getElem? (i := 1437) (by decide +kernel)⟩
theorem lw_p74 : lw_okq (⟨"OldestLawModel", "caseAt", "(II)I"⟩, 50) := ⟨⟨by decide +kernel, by decide +kernel⟩, List.mem_of_getElem? (i := 1067) (by decide +kernel), List.mem_of_getElem? (i := 1440) (by decide +kernel), List.mem_of_getElem? (i := 1441) (by decide +kernel)⟩
theorem lw_p75 : lw_okq (⟨"OldestLawModel", "dueAt", "(II)I"⟩, 50) := ⟨⟨by decide +kernel, by decide +kernel⟩, List.mem_of_getElem? (i := 1067) (by decide +kernel), List.mem_of_getElem? (i := 1444) (by decide +kernel), List.mem_of_getElem? (i := 1445) (by decide +kernel)⟩
theorem lw_p76 : lw_okq (⟨"OldestLawModel", "verdictIn", "(II)I"⟩, 50) := ⟨⟨by decide +kernel, by decide +kernel⟩, List.mem_of_getElem? (i := 1067) (by decide +kernel), List.mem_of_getElem? (i := 1448) (by decide +kernel), List.mem_of_getElem? (i := 1449) (by decide +kernel)⟩
theorem lw_p77 : lw_okq (⟨"OldestLawModel", "writes", "(II)V"⟩, 50) := ⟨⟨by decide +kernel, by decide +kernel⟩, List.mem_of_getElem? (i := 1067) (by decide +kernel), List.mem_of_getElem? (i := 1467) (by decide +kernel), List.mem_of_getElem? (i := 1468) (by decide +kernel)⟩
theorem lw_p78 : lw_okq (⟨"OldestLawModel", "findWording", "(II)V"⟩, 50) := ⟨⟨by decide +kernel, by decide +kernel⟩, List.mem_of_getElem? (i := 1067) (by decide +kernel), List.mem_of_getElem? (i := 1471) (by decide +kernel), List.mem_of_getElem? (i := 1472) (by decide +kernel)⟩
theorem lw_p79 : lw_okq (⟨"OldestLawModel", "isSo", "(II)Z"⟩, 50) := ⟨⟨by decide +kernel, by decide +kernel⟩, List.mem_of_getElem? (i := 1067) (by decide +kernel), List.mem_of_getElem? (i := 1475) (by decide +kernel), List.mem_of_getElem? (i := 1476) (by decide +kernel)⟩
def lw_privs_5 : List (MethodName × Nat) := [(⟨"OldestLawModel", "findStands", "(II)V"⟩, 50), (⟨"OldestLawModel", "isOlder", "(II)Z"⟩, 50), (⟨"OldestLawModel", "order", "(I)I"⟩, 50), (⟨"OldestLawModel", "isIn", "(I)Z"⟩, 50), (⟨"OldestLawModel", "isThere", "(I)Z"⟩, 50), (⟨"OldestLawModel", "holder", "(II)I"⟩, 50), (⟨"OldestLawModel", "isAhead", "(III)Z"⟩, 50), (⟨"OldestLawModel", "rowFault", "(I)I"⟩, 50), (⟨"OldestLawModel", "wrongIn", "(I)I"⟩, 50), (⟨"OldestLawModel", "isTwo", "(II)Z"⟩, 50), (⟨"OldestLawModel", "caseAt", "(II)I"⟩, 50), (⟨"OldestLawModel", "dueAt", "(II)I"⟩, 50), (⟨"OldestLawModel", "verdictIn", "(II)I"⟩, 50), (⟨"OldestLawModel", "writes", "(II)V"⟩, 50), (⟨"OldestLawModel", "findWording", "(II)V"⟩, 50), (⟨"OldestLawModel", "isSo", "(II)Z"⟩, 50)]
theorem lw_r5 : ∀ q ∈ lw_privs_5, lw_okq q := List.forall_mem_cons.mpr ⟨lw_p64, List.forall_mem_cons.mpr ⟨lw_p65, List.forall_mem_cons.mpr ⟨lw_p66, List.forall_mem_cons.mpr ⟨lw_p67, List.forall_mem_cons.mpr ⟨lw_p68, List.forall_mem_cons.mpr ⟨lw_p69, List.forall_mem_cons.mpr ⟨lw_p70, List.forall_mem_cons.mpr ⟨lw_p71, List.forall_mem_cons.mpr ⟨lw_p72, List.forall_mem_cons.mpr ⟨lw_p73, List.forall_mem_cons.mpr ⟨lw_p74, List.forall_mem_cons.mpr ⟨lw_p75, List.forall_mem_cons.mpr ⟨lw_p76, List.forall_mem_cons.mpr ⟨lw_p77, List.forall_mem_cons.mpr ⟨lw_p78, List.forall_mem_cons.mpr ⟨lw_p79, fun _ h => absurd h List.not_mem_nil⟩⟩⟩⟩⟩⟩⟩⟩⟩⟩⟩⟩⟩⟩⟩⟩
theorem lw_p80 : lw_okq (⟨"OldestLawModel", "isRowSo", "(I)Z"⟩, 50) := ⟨⟨by decide +kernel, by decide +kernel⟩, List.mem_of_getElem? (i := 1067) (by decide +kernel), List.mem_of_getElem? (i := 1479) (by decide +kernel), List.mem_of_getElem? (i := 1480) (by decide +kernel)⟩
theorem lw_p81 : lw_okq (⟨"OldestLawModel", "verdictWith", "(I)I"⟩, 50) := ⟨⟨by decide +kernel, by decide +kernel⟩, List.mem_of_getElem? (i := 1067) (by decide +kernel), List.mem_of_getElem? (i := 1483) (by decide +kernel), List.mem_of_getElem? (i := 1484) (by decide +kernel)⟩
theorem lw_p82 : lw_okq (⟨"OldestLawModel", "canBe", "(II)Z"⟩, 50) := ⟨⟨by decide +kernel, by decide +kernel⟩, List.mem_of_getElem? (i := 1067) (by decide +kernel), List.mem_of_getElem? (i := 1491) (by decide +kernel), List.mem_of_getElem? (i := 1492) (by decide +kernel)⟩
theorem lw_p83 : lw_okq (⟨"OldestLawModel", "keepVerdicts", "(I)V"⟩, 50) := ⟨⟨by decide +kernel, by decide +kernel⟩, List.mem_of_getElem? (i := 1067) (by decide +kernel), List.mem_of_getElem? (i := 1499) (by decide +kernel), List.mem_of_getElem? (i := 1500) (by decide +kernel)⟩
theorem lw_p84 : lw_okq (⟨"OldestLawModel", "unlikeNow", "(II)I"⟩, 50) := ⟨⟨by decide +kernel, by decide +kernel⟩, List.mem_of_getElem? (i := 1067) (by decide +kernel), List.mem_of_getElem? (i := 1503) (by decide +kernel), List.mem_of_getElem? (i := 1504) (by decide +kernel)⟩
theorem lw_p85 : lw_okq (⟨"OldestLawModel", "struckBy", "(I)I"⟩, 50) := ⟨⟨by decide +kernel, by decide +kernel⟩, List.mem_of_getElem? (i := 1067) (by decide +kernel), List.mem_of_getElem? (i := 1526) (by decide +kernel), List.mem_of_getElem? (i := 1527) (by decide +kernel)⟩
theorem lw_p86 : lw_okq (⟨"OldestLawModel", "isBody", "(I)Z"⟩, 50) := ⟨⟨by decide +kernel, by decide +kernel⟩, List.mem_of_getElem? (i := 1067) (by decide +kernel), List.mem_of_getElem? (i := 1550) (by decide +kernel), List.mem_of_getElem? (i := 1551) (by decide +kernel)⟩
theorem lw_p87 : lw_okq (⟨"OldestLawModel", "saying", "(II)I"⟩, 50) := ⟨⟨by decide +kernel, by decide +kernel⟩, List.mem_of_getElem? (i := 1067) (by decide +kernel), List.mem_of_getElem? (i := 1554) (by decide +kernel), List.mem_of_getElem? (i := 1555) (by decide +kernel)⟩
theorem lw_p88 : lw_okq (⟨"OldestLawModel", "ran", "(I)V"⟩, 50) := ⟨⟨by decide +kernel, by decide +kernel⟩, List.mem_of_getElem? (i := 1067) (by decide +kernel), List.mem_of_getElem? (i := 1561) (by decide +kernel), List.mem_of_getElem? (i := 1562) (by decide +kernel)⟩
theorem lw_p89 : lw_okq (⟨"OldestLawModel", "plainSays", "(II)I"⟩, 50) := ⟨⟨by decide +kernel, by decide +kernel⟩, List.mem_of_getElem? (i := 1067) (by decide +kernel), List.mem_of_getElem? (i := 1565) (by decide +kernel), List.mem_of_getElem? (i := 1566) (by decide +kernel)⟩
theorem lw_p90 : lw_okq (⟨"OldestLawModel", "wordSays", "(II)I"⟩, 50) := ⟨⟨by decide +kernel, by decide +kernel⟩, List.mem_of_getElem? (i := 1067) (by decide +kernel), List.mem_of_getElem? (i := 1569) (by decide +kernel), List.mem_of_getElem? (i := 1570) (by decide +kernel)⟩
theorem lw_p91 : lw_okq (⟨"OldestLawModel", "holding", "(II)I"⟩, 50) := ⟨⟨by decide +kernel, by decide +kernel⟩, List.mem_of_getElem? (i := 1067) (by decide +kernel), List.mem_of_getElem? (i := 1573) (by decide +kernel), List.mem_of_getElem? (i := 1574) (by decide +kernel)⟩
theorem lw_p92 : lw_okq (⟨"OldestLawModel", "mayHolds", "(II)I"⟩, 50) := ⟨⟨by decide +kernel, by decide +kernel⟩, List.mem_of_getElem? (i := 1067) (by decide +kernel), List.mem_of_getElem? (i := 1577) (by decide +kernel), List.mem_of_getElem? (i := 1578) (by decide +kernel)⟩
theorem lw_p93 : lw_okq (⟨"OldestLawModel", "plainHolds", "(II)I"⟩, 50) := ⟨⟨by decide +kernel, by decide +kernel⟩, List.mem_of_getElem? (i := 1067) (by decide +kernel), List.mem_of_getElem? (i := 1581) (by decide +kernel), List.mem_of_getElem? (i := 1582) (by decide +kernel)⟩
theorem lw_p94 : lw_okq (⟨"OldestLawModel", "beating", "(II)I"⟩, 50) := ⟨⟨by decide +kernel, by decide +kernel⟩, List.mem_of_getElem? (i := 1067) (by decide +kernel), List.mem_of_getElem? (i := 1585) (by decide +kernel), List.mem_of_getElem? (i := 1586) (by decide +kernel)⟩
theorem lw_p95 : lw_okq (⟨"OldestLawModel", "unlessBeats", "(II)I"⟩, 50) := ⟨⟨by decide +kernel, by decide +kernel⟩, List.mem_of_getElem? (i := 1067) (by decide +kernel), List.mem_of_getElem? (i := 1589) (by decide +kernel), List.mem_of_getElem? (i := 1590) (by decide +kernel)⟩
def lw_privs_6 : List (MethodName × Nat) := [(⟨"OldestLawModel", "isRowSo", "(I)Z"⟩, 50), (⟨"OldestLawModel", "verdictWith", "(I)I"⟩, 50), (⟨"OldestLawModel", "canBe", "(II)Z"⟩, 50), (⟨"OldestLawModel", "keepVerdicts", "(I)V"⟩, 50), (⟨"OldestLawModel", "unlikeNow", "(II)I"⟩, 50), (⟨"OldestLawModel", "struckBy", "(I)I"⟩, 50), (⟨"OldestLawModel", "isBody", "(I)Z"⟩, 50), (⟨"OldestLawModel", "saying", "(II)I"⟩, 50), (⟨"OldestLawModel", "ran", "(I)V"⟩, 50), (⟨"OldestLawModel", "plainSays", "(II)I"⟩, 50), (⟨"OldestLawModel", "wordSays", "(II)I"⟩, 50), (⟨"OldestLawModel", "holding", "(II)I"⟩, 50), (⟨"OldestLawModel", "mayHolds", "(II)I"⟩, 50), (⟨"OldestLawModel", "plainHolds", "(II)I"⟩, 50), (⟨"OldestLawModel", "beating", "(II)I"⟩, 50), (⟨"OldestLawModel", "unlessBeats", "(II)I"⟩, 50)]
theorem lw_r6 : ∀ q ∈ lw_privs_6, lw_okq q := List.forall_mem_cons.mpr ⟨lw_p80, List.forall_mem_cons.mpr ⟨lw_p81, List.forall_mem_cons.mpr ⟨lw_p82, List.forall_mem_cons.mpr ⟨lw_p83, List.forall_mem_cons.mpr ⟨lw_p84, List.forall_mem_cons.mpr ⟨lw_p85, List.forall_mem_cons.mpr ⟨lw_p86, List.forall_mem_cons.mpr ⟨lw_p87, List.forall_mem_cons.mpr ⟨lw_p88, List.forall_mem_cons.mpr ⟨lw_p89, List.forall_mem_cons.mpr ⟨lw_p90, List.forall_mem_cons.mpr ⟨lw_p91, List.forall_mem_cons.mpr ⟨lw_p92, List.forall_mem_cons.mpr ⟨lw_p93, List.forall_mem_cons.mpr ⟨lw_p94, List.forall_mem_cons.mpr ⟨lw_p95, fun _ h => absurd h List.not_mem_nil⟩⟩⟩⟩⟩⟩⟩⟩⟩⟩⟩⟩⟩⟩⟩⟩
theorem lw_p96 : lw_okq (⟨"OldestLawModel", "plainBeats", "(II)I"⟩, 50) := ⟨⟨by decide +kernel, by decide +kernel⟩, List.mem_of_getElem? (i := 1067) (by decide +kernel), List.mem_of_getElem? (i := 1593) (by decide +kernel), List.mem_of_getElem? (i := 1594) (by decide +kernel)⟩
theorem lw_p97 : lw_okq (⟨"OldestLawModel", "telling", "(II)I"⟩, 50) := ⟨⟨by decide +kernel, by decide +kernel⟩, List.mem_of_getElem? (i := 1067) (by decide +kernel), List.mem_of_getElem? (i := 1597) (by decide +kernel), List.mem_of_getElem? (i := 1598) (by decide +kernel)⟩
theorem lw_p98 : lw_okq (⟨"OldestLawModel", "plainTells", "(II)I"⟩, 50) := ⟨⟨by decide +kernel, by decide +kernel⟩, List.mem_of_getElem? (i := 1067) (by decide +kernel), List.mem_of_getElem? (i := 1601) (by decide +kernel), List.mem_of_getElem? (i := 1602) (by decide +kernel)⟩
theorem lw_p99 : lw_okq (⟨"OldestLawModel", "thereMany", "()I"⟩, 50) := ⟨⟨by decide +kernel, by decide +kernel⟩, List.mem_of_getElem? (i := 1067) (by decide +kernel), List.mem_of_getElem? (i := 1609) (by decide +kernel), List.mem_of_getElem? (i := 1610) (by decide +kernel)⟩
theorem lw_p100 : lw_okq (⟨"OldestLawModel", "countStanding", "()I"⟩, 50) := ⟨⟨by decide +kernel, by decide +kernel⟩, List.mem_of_getElem? (i := 1067) (by decide +kernel), List.mem_of_getElem? (i := 1613) (by decide +kernel), List.mem_of_getElem? (i := 1614) (by decide +kernel)⟩
theorem lw_p101 : lw_okq (⟨"OldestLawModel", "standing", "()I"⟩, 50) := ⟨⟨by decide +kernel, by decide +kernel⟩, List.mem_of_getElem? (i := 1067) (by decide +kernel), List.mem_of_getElem? (i := 1617) (by decide +kernel), List.mem_of_getElem? (i := 1618) (by decide +kernel)⟩
theorem lw_p102 : lw_okq (⟨"OldestLawModel", "whyNoPlace", "(II)I"⟩, 50) := ⟨⟨by decide +kernel, by decide +kernel⟩, List.mem_of_getElem? (i := 1067) (by decide +kernel), List.mem_of_getElem? (i := 1633) (by decide +kernel), List.mem_of_getElem? (i := 1634) (by decide +kernel)⟩
def lw_privs_7 : List (MethodName × Nat) := [(⟨"OldestLawModel", "plainBeats", "(II)I"⟩, 50), (⟨"OldestLawModel", "telling", "(II)I"⟩, 50), (⟨"OldestLawModel", "plainTells", "(II)I"⟩, 50), (⟨"OldestLawModel", "thereMany", "()I"⟩, 50), (⟨"OldestLawModel", "countStanding", "()I"⟩, 50), (⟨"OldestLawModel", "standing", "()I"⟩, 50), (⟨"OldestLawModel", "whyNoPlace", "(II)I"⟩, 50)]
theorem lw_r7 : ∀ q ∈ lw_privs_7, lw_okq q := List.forall_mem_cons.mpr ⟨lw_p96, List.forall_mem_cons.mpr ⟨lw_p97, List.forall_mem_cons.mpr ⟨lw_p98, List.forall_mem_cons.mpr ⟨lw_p99, List.forall_mem_cons.mpr ⟨lw_p100, List.forall_mem_cons.mpr ⟨lw_p101, List.forall_mem_cons.mpr ⟨lw_p102, fun _ h => absurd h List.not_mem_nil⟩⟩⟩⟩⟩⟩⟩
def lw_privs : List (MethodName × Nat) := lw_privs_1 ++ (lw_privs_2 ++ (lw_privs_3 ++ (lw_privs_4 ++ (lw_privs_5 ++ (lw_privs_6 ++ (lw_privs_7))))))
def lw_tbl : List Cond := k2_sels lw_privs ++ tables_1
theorem lw_privs_ok : ∀ q ∈ lw_privs, lw_okq q := by
  show ∀ q ∈ lw_privs_1 ++ (lw_privs_2 ++ (lw_privs_3 ++ (lw_privs_4 ++ (lw_privs_5 ++ (lw_privs_6 ++ (lw_privs_7)))))), lw_okq q
  exact List.forall_mem_append.mpr ⟨lw_r1, List.forall_mem_append.mpr ⟨lw_r2, List.forall_mem_append.mpr ⟨lw_r3, List.forall_mem_append.mpr ⟨lw_r4, List.forall_mem_append.mpr ⟨lw_r5, List.forall_mem_append.mpr ⟨lw_r6, lw_r7⟩⟩⟩⟩⟩⟩
end
section
def RX0 : String := "OldestLaw$Cases"
def TX0 : u_T := fun k => match k with
  | 0 => ("OldestLaw$Cases", "low", "J", false)
  | _ => ("OldestLaw$Cases", "high", "J", false)
def tyX0 : Nat → FieldType := fun k => match k with
  | 0 => .long
  | _ => .long
abbrev wsX00 : List Cond := u_ws RX0 TX0 2
theorem nmX0 : ∀ a, a < 2 → ∀ b, b < 2 → a ≠ b → (TX0 a).2.1 ≠ (TX0 b).2.1 := by decide +kernel
theorem tyX0_ok : ∀ k, k < 2 → parseFieldDescriptor (TX0 k).2.2.1 = some (tyX0 k) := by decide +kernel
def RX1 : String := "OldestLaw$Changes"
def TX1 : u_T := fun k => match k with
  | 0 => ("OldestLaw$Changes", "done", "I", false)
  | 1 => ("OldestLaw$Changes", "all", "I", false)
  | 2 => ("OldestLaw$Changes", "numbers", "[I", true)
  | 3 => ("OldestLaw$Changes", "whats", "[I", true)
  | 4 => ("OldestLaw$Changes", "olds", "[I", true)
  | _ => ("OldestLaw$Changes", "news", "[I", true)
def tyX1 : Nat → FieldType := fun k => match k with
  | 0 => .int
  | 1 => .int
  | 2 => .array .int
  | 3 => .array .int
  | 4 => .array .int
  | _ => .array .int
abbrev wsX10 : List Cond := u_ws RX1 TX1 6
theorem nmX1 : ∀ a, a < 6 → ∀ b, b < 6 → a ≠ b → (TX1 a).2.1 ≠ (TX1 b).2.1 := by decide +kernel
theorem tyX1_ok : ∀ k, k < 6 → parseFieldDescriptor (TX1 k).2.2.1 = some (tyX1 k) := by decide +kernel
def RX2 : String := "OldestLaw$Clauses"
def TX2 : u_T := fun k => match k with
  | 0 => ("OldestLaw$Clauses", "many", "I", false)
  | 1 => ("OldestLaw$Clauses", "ran", "I", false)
  | 2 => ("OldestLaw$Clauses", "kinds", "[I", true)
  | _ => ("OldestLaw$Clauses", "traces", "[I", true)
def tyX2 : Nat → FieldType := fun k => match k with
  | 0 => .int
  | 1 => .int
  | 2 => .array .int
  | _ => .array .int
abbrev wsX20 : List Cond := u_ws RX2 TX2 4
theorem nmX2 : ∀ a, a < 4 → ∀ b, b < 4 → a ≠ b → (TX2 a).2.1 ≠ (TX2 b).2.1 := by decide +kernel
theorem tyX2_ok : ∀ k, k < 4 → parseFieldDescriptor (TX2 k).2.2.1 = some (tyX2 k) := by decide +kernel
def RX3 : String := "OldestLaw$Court"
def TX3 : u_T := fun k => match k with
  | 0 => ("OldestLaw$Court", "words", "LOldestLaw$Words;", true)
  | 1 => ("OldestLaw$Court", "many", "I", false)
  | 2 => ("OldestLaw$Court", "rule", "I", false)
  | 3 => ("OldestLaw$Court", "today", "I", false)
  | 4 => ("OldestLaw$Court", "standing", "I", false)
  | 5 => ("OldestLaw$Court", "laws", "[LOldestLaw$Law;", true)
  | 6 => ("OldestLaw$Court", "nobody", "LOldestLaw$Law;", true)
  | 7 => ("OldestLaw$Court", "byAge", "[I", true)
  | 8 => ("OldestLaw$Court", "names", "[I", true)
  | _ => ("OldestLaw$Court", "verdicts", "[I", true)
def tyX3 : Nat → FieldType := fun k => match k with
  | 0 => .object "OldestLaw$Words"
  | 1 => .int
  | 2 => .int
  | 3 => .int
  | 4 => .int
  | 5 => .array (.object "OldestLaw$Law")
  | 6 => .object "OldestLaw$Law"
  | 7 => .array .int
  | 8 => .array .int
  | _ => .array .int
abbrev wsX30 : List Cond := u_ws RX3 TX3 10
theorem nmX3 : ∀ a, a < 10 → ∀ b, b < 10 → a ≠ b → (TX3 a).2.1 ≠ (TX3 b).2.1 := by decide +kernel
theorem tyX3_ok : ∀ k, k < 10 → parseFieldDescriptor (TX3 k).2.2.1 = some (tyX3 k) := by decide +kernel
def RX4 : String := "OldestLaw$Law"
def TX4 : u_T := fun k => match k with
  | 0 => ("OldestLaw$Law", "number", "I", true)
  | 1 => ("OldestLaw$Law", "date", "I", false)
  | 2 => ("OldestLaw$Law", "says", "I", false)
  | 3 => ("OldestLaw$Law", "strikes", "I", false)
  | 4 => ("OldestLaw$Law", "text", "LOldestLaw$Text;", true)
  | 5 => ("OldestLaw$Law", "speech", "LOldestLaw$Cases;", true)
  | 6 => ("OldestLaw$Law", "heardDate", "I", false)
  | 7 => ("OldestLaw$Law", "heardToday", "I", false)
  | 8 => ("OldestLaw$Law", "heardWords", "I", false)
  | 9 => ("OldestLaw$Law", "imageDate", "I", false)
  | 10 => ("OldestLaw$Law", "imageSays", "I", false)
  | _ => ("OldestLaw$Law", "imageStrikes", "I", false)
def tyX4 : Nat → FieldType := fun k => match k with
  | 0 => .int
  | 1 => .int
  | 2 => .int
  | 3 => .int
  | 4 => .object "OldestLaw$Text"
  | 5 => .object "OldestLaw$Cases"
  | 6 => .int
  | 7 => .int
  | 8 => .int
  | 9 => .int
  | 10 => .int
  | _ => .int
abbrev wsX40 : List Cond := u_ws RX4 TX4 12
theorem nmX4 : ∀ a, a < 12 → ∀ b, b < 12 → a ≠ b → (TX4 a).2.1 ≠ (TX4 b).2.1 := by decide +kernel
theorem tyX4_ok : ∀ k, k < 12 → parseFieldDescriptor (TX4 k).2.2.1 = some (tyX4 k) := by decide +kernel
def RX5 : String := "OldestLaw$Reader"
def TX5 : u_T := fun k => match k with
  | 0 => ("OldestLaw$Reader", "text", "LOldestLaw$Text;", true)
  | 1 => ("OldestLaw$Reader", "bytes", "[I", true)
  | 2 => ("OldestLaw$Reader", "many", "I", false)
  | _ => ("OldestLaw$Reader", "place", "I", false)
def tyX5 : Nat → FieldType := fun k => match k with
  | 0 => .object "OldestLaw$Text"
  | 1 => .array .int
  | 2 => .int
  | _ => .int
abbrev wsX50 : List Cond := u_ws RX5 TX5 4
theorem nmX5 : ∀ a, a < 4 → ∀ b, b < 4 → a ≠ b → (TX5 a).2.1 ≠ (TX5 b).2.1 := by decide +kernel
theorem tyX5_ok : ∀ k, k < 4 → parseFieldDescriptor (TX5 k).2.2.1 = some (tyX5 k) := by decide +kernel
def RX6 : String := "OldestLaw$Shelf"
def TX6 : u_T := fun k => match k with
  | 0 => ("OldestLaw$Shelf", "holds", "I", false)
  | 1 => ("OldestLaw$Shelf", "body", "I", false)
  | 2 => ("OldestLaw$Shelf", "size", "I", false)
  | _ => ("OldestLaw$Shelf", "elements", "[J", true)
def tyX6 : Nat → FieldType := fun k => match k with
  | 0 => .int
  | 1 => .int
  | 2 => .int
  | _ => .array .long
abbrev wsX60 : List Cond := u_ws RX6 TX6 4
theorem nmX6 : ∀ a, a < 4 → ∀ b, b < 4 → a ≠ b → (TX6 a).2.1 ≠ (TX6 b).2.1 := by decide +kernel
theorem tyX6_ok : ∀ k, k < 4 → parseFieldDescriptor (TX6 k).2.2.1 = some (tyX6 k) := by decide +kernel
def RX7 : String := "OldestLaw$Text"
def TX7 : u_T := fun k => match k with
  | 0 => ("OldestLaw$Text", "steps", "[I", true)
  | 1 => ("OldestLaw$Text", "stack", "[I", true)
  | _ => ("OldestLaw$Text", "length", "I", false)
def tyX7 : Nat → FieldType := fun k => match k with
  | 0 => .array .int
  | 1 => .array .int
  | _ => .int
abbrev wsX70 : List Cond := u_ws RX7 TX7 3
theorem nmX7 : ∀ a, a < 3 → ∀ b, b < 3 → a ≠ b → (TX7 a).2.1 ≠ (TX7 b).2.1 := by decide +kernel
theorem tyX7_ok : ∀ k, k < 3 → parseFieldDescriptor (TX7 k).2.2.1 = some (tyX7 k) := by decide +kernel
def RX8 : String := "OldestLaw$Wordings"
def TX8 : u_T := fun k => match k with
  | 0 => ("OldestLaw$Wordings", "law", "LOldestLaw$Law;", true)
  | 1 => ("OldestLaw$Wordings", "met", "[LOldestLaw$Cases;", true)
  | 2 => ("OldestLaw$Wordings", "all", "LOldestLaw$Cases;", true)
  | 3 => ("OldestLaw$Wordings", "holding", "[I", true)
  | 4 => ("OldestLaw$Wordings", "first", "I", false)
  | _ => ("OldestLaw$Wordings", "second", "I", false)
def tyX8 : Nat → FieldType := fun k => match k with
  | 0 => .object "OldestLaw$Law"
  | 1 => .array (.object "OldestLaw$Cases")
  | 2 => .object "OldestLaw$Cases"
  | 3 => .array .int
  | 4 => .int
  | _ => .int
abbrev wsX80 : List Cond := u_ws RX8 TX8 6
theorem nmX8 : ∀ a, a < 6 → ∀ b, b < 6 → a ≠ b → (TX8 a).2.1 ≠ (TX8 b).2.1 := by decide +kernel
theorem tyX8_ok : ∀ k, k < 6 → parseFieldDescriptor (TX8 k).2.2.1 = some (tyX8 k) := by decide +kernel
def RX9 : String := "OldestLaw$Words"
def TX9 : u_T := fun k => match k with
  | 0 => ("OldestLaw$Words", "to", "[I", true)
  | 1 => ("OldestLaw$Words", "from", "[I", true)
  | 2 => ("OldestLaw$Words", "imageTo", "[I", true)
  | _ => ("OldestLaw$Words", "imageFrom", "[I", true)
def tyX9 : Nat → FieldType := fun k => match k with
  | 0 => .array .int
  | 1 => .array .int
  | 2 => .array .int
  | _ => .array .int
abbrev wsX90 : List Cond := u_ws RX9 TX9 4
theorem nmX9 : ∀ a, a < 4 → ∀ b, b < 4 → a ≠ b → (TX9 a).2.1 ≠ (TX9 b).2.1 := by decide +kernel
theorem tyX9_ok : ∀ k, k < 4 → parseFieldDescriptor (TX9 k).2.2.1 = some (tyX9 k) := by decide +kernel
def RX10 : String := "OldestLaw"
def TX10 : u_T := fun k => match k with
  | 0 => ("OldestLaw", "tape", "[I", true)
  | 1 => ("OldestLaw", "taped", "I", false)
  | 2 => ("OldestLaw", "comparison", "[I", true)
  | 3 => ("OldestLaw", "reader", "LOldestLaw$Reader;", true)
  | 4 => ("OldestLaw", "court", "LOldestLaw$Court;", true)
  | 5 => ("OldestLaw", "changes", "LOldestLaw$Changes;", true)
  | 6 => ("OldestLaw", "wordings", "LOldestLaw$Wordings;", true)
  | 7 => ("OldestLaw", "clauses", "LOldestLaw$Clauses;", true)
  | 8 => ("OldestLaw", "shelves", "[LOldestLaw$Shelf;", true)
  | 9 => ("OldestLaw", "noShelf", "LOldestLaw$Shelf;", true)
  | 10 => ("OldestLaw", "found", "LOldestLaw$Cases;", true)
  | _ => ("OldestLaw", "imaged", "I", false)
def tyX10 : Nat → FieldType := fun k => match k with
  | 0 => .array .int
  | 1 => .int
  | 2 => .array .int
  | 3 => .object "OldestLaw$Reader"
  | 4 => .object "OldestLaw$Court"
  | 5 => .object "OldestLaw$Changes"
  | 6 => .object "OldestLaw$Wordings"
  | 7 => .object "OldestLaw$Clauses"
  | 8 => .array (.object "OldestLaw$Shelf")
  | 9 => .object "OldestLaw$Shelf"
  | 10 => .object "OldestLaw$Cases"
  | _ => .int
abbrev wsX100 : List Cond := u_ws RX10 TX10 12
theorem nmX10 : ∀ a, a < 12 → ∀ b, b < 12 → a ≠ b → (TX10 a).2.1 ≠ (TX10 b).2.1 := by decide +kernel
theorem tyX10_ok : ∀ k, k < 12 → parseFieldDescriptor (TX10 k).2.2.1 = some (tyX10 k) := by decide +kernel
def RX11 : String := "OldestLawModel"
def TX11 : u_T := fun k => match k with
  | 0 => ("OldestLawModel", "code", "I", false)
  | 1 => ("OldestLawModel", "tape", "[B", true)
  | 2 => ("OldestLawModel", "taped", "I", false)
  | 3 => ("OldestLawModel", "here", "I", false)
  | 4 => ("OldestLawModel", "fault", "I", false)
  | 5 => ("OldestLawModel", "open", "I", false)
  | 6 => ("OldestLawModel", "laid", "I", false)
  | 7 => ("OldestLawModel", "act", "[B", true)
  | 8 => ("OldestLawModel", "with", "[I", true)
  | 9 => ("OldestLawModel", "lineMany", "[I", true)
  | 10 => ("OldestLawModel", "testEnd", "[S", true)
  | 11 => ("OldestLawModel", "lineEnd", "[S", true)
  | 12 => ("OldestLawModel", "facts", "[I", true)
  | 13 => ("OldestLawModel", "pile", "[I", true)
  | 14 => ("OldestLawModel", "laws", "I", false)
  | 15 => ("OldestLawModel", "date", "[I", true)
  | 16 => ("OldestLawModel", "says", "[I", true)
  | 17 => ("OldestLawModel", "strikes", "[I", true)
  | 18 => ("OldestLawModel", "rule", "I", false)
  | 19 => ("OldestLawModel", "today", "I", false)
  | 20 => ("OldestLawModel", "means", "[I", true)
  | 21 => ("OldestLawModel", "meansFrom", "[I", true)
  | 22 => ("OldestLawModel", "spare", "[B", true)
  | 23 => ("OldestLawModel", "doneMany", "I", false)
  | 24 => ("OldestLawModel", "undoneMany", "I", false)
  | 25 => ("OldestLawModel", "changeOf", "[I", true)
  | 26 => ("OldestLawModel", "changeAt", "[I", true)
  | 27 => ("OldestLawModel", "before", "[I", true)
  | 28 => ("OldestLawModel", "behind", "[I", true)
  | 29 => ("OldestLawModel", "stands", "[Z", true)
  | 30 => ("OldestLawModel", "left1", "I", false)
  | 31 => ("OldestLawModel", "oldest", "I", false)
  | 32 => ("OldestLawModel", "speaks", "[Z", true)
  | 33 => ("OldestLawModel", "speaksIn", "[I", true)
  | 34 => ("OldestLawModel", "was", "[I", true)
  | 35 => ("OldestLawModel", "hasImage", "Z", false)
  | 36 => ("OldestLawModel", "keptLaws", "I", false)
  | 37 => ("OldestLawModel", "keptDate", "[I", true)
  | 38 => ("OldestLawModel", "keptSays", "[I", true)
  | 39 => ("OldestLawModel", "keptStrikes", "[I", true)
  | 40 => ("OldestLawModel", "keptMeans", "[I", true)
  | 41 => ("OldestLawModel", "keptFrom", "[I", true)
  | 42 => ("OldestLawModel", "bodies", "I", false)
  | 43 => ("OldestLawModel", "kind", "[I", true)
  | 44 => ("OldestLawModel", "traces", "I", false)
  | 45 => ("OldestLawModel", "traced", "[I", true)
  | 46 => ("OldestLawModel", "holds", "[I", true)
  | 47 => ("OldestLawModel", "size", "[I", true)
  | 48 => ("OldestLawModel", "elements", "[J", true)
  | _ => ("OldestLawModel", "shifted", "[J", true)
def tyX11 : Nat → FieldType := fun k => match k with
  | 0 => .int
  | 1 => .array .byte
  | 2 => .int
  | 3 => .int
  | 4 => .int
  | 5 => .int
  | 6 => .int
  | 7 => .array .byte
  | 8 => .array .int
  | 9 => .array .int
  | 10 => .array .short
  | 11 => .array .short
  | 12 => .array .int
  | 13 => .array .int
  | 14 => .int
  | 15 => .array .int
  | 16 => .array .int
  | 17 => .array .int
  | 18 => .int
  | 19 => .int
  | 20 => .array .int
  | 21 => .array .int
  | 22 => .array .byte
  | 23 => .int
  | 24 => .int
  | 25 => .array .int
  | 26 => .array .int
  | 27 => .array .int
  | 28 => .array .int
  | 29 => .array .boolean
  | 30 => .int
  | 31 => .int
  | 32 => .array .boolean
  | 33 => .array .int
  | 34 => .array .int
  | 35 => .boolean
  | 36 => .int
  | 37 => .array .int
  | 38 => .array .int
  | 39 => .array .int
  | 40 => .array .int
  | 41 => .array .int
  | 42 => .int
  | 43 => .array .int
  | 44 => .int
  | 45 => .array .int
  | 46 => .array .int
  | 47 => .array .int
  | 48 => .array .long
  | _ => .array .long
abbrev wsX110 : List Cond := u_ws RX11 TX11 50
theorem nmX11 : ∀ a, a < 50 → ∀ b, b < 50 → a ≠ b → (TX11 a).2.1 ≠ (TX11 b).2.1 := by decide +kernel
theorem tyX11_ok : ∀ k, k < 50 → parseFieldDescriptor (TX11 k).2.2.1 = some (tyX11 k) := by decide +kernel
abbrev vwCl : List vw_C := [(RX0, TX0, 2), (RX1, TX1, 6), (RX2, TX2, 4), (RX3, TX3, 10), (RX4, TX4, 12), (RX5, TX5, 4), (RX6, TX6, 4), (RX7, TX7, 3), (RX8, TX8, 6), (RX9, TX9, 4), (RX10, TX10, 12), (RX11, TX11, 50)]
set_option maxRecDepth 20000 in
theorem s_inX0 : ∀ w ∈ wsX00, w ∈ lw_tbl := by decide +kernel
set_option maxRecDepth 20000 in
theorem s_inX1 : ∀ w ∈ wsX10, w ∈ lw_tbl := by decide +kernel
set_option maxRecDepth 20000 in
theorem s_inX2 : ∀ w ∈ wsX20, w ∈ lw_tbl := by decide +kernel
set_option maxRecDepth 20000 in
theorem s_inX3 : ∀ w ∈ wsX30, w ∈ lw_tbl := by decide +kernel
set_option maxRecDepth 20000 in
theorem s_inX4 : ∀ w ∈ wsX40, w ∈ lw_tbl := by decide +kernel
set_option maxRecDepth 20000 in
theorem s_inX5 : ∀ w ∈ wsX50, w ∈ lw_tbl := by decide +kernel
set_option maxRecDepth 20000 in
theorem s_inX6 : ∀ w ∈ wsX60, w ∈ lw_tbl := by decide +kernel
set_option maxRecDepth 20000 in
theorem s_inX7 : ∀ w ∈ wsX70, w ∈ lw_tbl := by decide +kernel
set_option maxRecDepth 20000 in
theorem s_inX8 : ∀ w ∈ wsX80, w ∈ lw_tbl := by decide +kernel
set_option maxRecDepth 20000 in
theorem s_inX9 : ∀ w ∈ wsX90, w ∈ lw_tbl := by decide +kernel
set_option maxRecDepth 20000 in
theorem s_inX10 : ∀ w ∈ wsX100, w ∈ lw_tbl := by decide +kernel
set_option maxRecDepth 20000 in
theorem s_inX11 : ∀ w ∈ wsX110, w ∈ lw_tbl := by decide +kernel
end
section
/-! THE SMALL MACHINE: a function over a list of cells whose references are places in that list. Its soundness over the machine is proved in the next parts. -/
abbrev sL : Type := List (Nat × Value)
abbrev sC : Type := Nat × List Value
abbrev sM : Type := List sC
abbrev sI : Type := Jvm.ClassFile.Instr × Nat
abbrev sCode : Type := List (List (Option sI))
/-- a method: its locals, its answer's type, its class's kind, its code -/
abbrev sMeth : Type := Nat × (Option FieldType × (Nat × sCode))
/-- rows that are only read: length and contents (0, 1: the statics; 2: the script) -/
abbrev sE : Type := Nat → Nat × (Nat → Int32)
abbrev sR : Type := Option (Option Value × sM)
def s_fetch (cd : sCode) (pc : Nat) : Option sI := match cd[pc / 16]? with
  | some l => (match l[pc % 16]? with
    | some o => o
    | none => none)
  | none => none
def s_get : sL → Nat → Option Value
  | [], _ => none
  | q :: r, i => bif Nat.beq q.1 i then some q.2 else s_get r i
def s_set (l : sL) (i : Nat) (v : Value) : sL := (i, v) :: l.filter (fun q => !(q.1 == i) && !(q.1 + 1 == i && q.2.category == 2))
def s_setL (l : sL) (i : Nat) (v : Value) : sL := (i, v) :: l.filter (fun q => !(q.1 == i) && (!(q.1 == i + 1) && !(q.1 + 1 == i && q.2.category == 2)))
def s_c1 (c : Jvm.ClassFile.Cond) (x : Int32) : Bool := match c with
  | .eq => decide (x = 0)
  | .ne => !decide (x = 0)
  | .lt => decide (x < 0)
  | .ge => decide (0 ≤ x)
  | .gt => decide (0 < x)
  | .le => decide (x ≤ 0)
def s_c2 (c : Jvm.ClassFile.Cond) (x y : Int32) : Bool := match c with
  | .eq => decide (x = y)
  | .ne => !decide (x = y)
  | .lt => decide (x < y)
  | .ge => decide (y ≤ x)
  | .gt => decide (y < x)
  | .le => decide (x ≤ y)
def s_tgt (pc : Nat) (off : Int) : Option Nat := match (pc : Int) + off with
  | .ofNat t => some t
  | _ => none
def s_br (b : Bool) (pc : Nat) (off : Int) : Option Nat := bif b then s_tgt pc off else some (pc + 3)
/-- which kinds: an array's contents, by the instruction that reads or writes it -/
def s_at (M : sM) (a : Nat) (i : Int32) (ok : Nat → Bool) : Option Value := match M[a]? with
  | some c => bif ok c.1 && !decide (i < 0) then c.2[i.toNatClampNeg]? else none
  | none => none
def s_fld (M : sM) (a n : Nat) : Option Value := match M[a]? with
  | some c => bif Nat.beq c.1 (n / 64) then c.2[n % 64]? else none
  | none => none
abbrev sP : Type := Option (Nat × (sL × List Value))
def s_i1 (st : List Value) (f : Int32 → Value) (p : Nat) (ls : sL) : sP := match st with
  | .int x :: r => some (p, ls, f x :: r)
  | _ => none
def s_i2 (st : List Value) (f : Int32 → Int32 → Int32) (p : Nat) (ls : sL) : sP := match st with
  | .int y :: .int x :: r => some (p, ls, .int (f x y) :: r)
  | _ => none
def s_l2 (st : List Value) (f : Int64 → Int64 → Int64) (p : Nat) (ls : sL) : sP := match st with
  | .long y :: .long x :: r => some (p, ls, .long (f x y) :: r)
  | _ => none
def s_li (st : List Value) (f : Int64 → Int32 → Int64) (p : Nat) (ls : sL) : sP := match st with
  | .int y :: .long x :: r => some (p, ls, .long (f x y) :: r)
  | _ => none
def s_ild (k : Nat) (p : Nat) (ls : sL) (st : List Value) : sP := match s_get ls k with
  | some (.int x) => some (p, ls, .int x :: st)
  | _ => none
def s_lld (k : Nat) (p : Nat) (ls : sL) (st : List Value) : sP := match s_get ls k with
  | some (.long x) => some (p, ls, .long x :: st)
  | _ => none
def s_ald (k : Nat) (p : Nat) (ls : sL) (st : List Value) : sP := match s_get ls k with
  | some (.ref a) => some (p, ls, .ref a :: st)
  | some .null => some (p, ls, .null :: st)
  | some (.retAddr j) => some (p, ls, .retAddr j :: st)
  | _ => none
def s_ist (mx k : Nat) (p : Nat) (ls : sL) (st : List Value) : sP := match st with
  | .int x :: r => bif Nat.blt k mx then some (p, s_set ls k (.int x), r) else none
  | _ => none
def s_lst (mx k : Nat) (p : Nat) (ls : sL) (st : List Value) : sP := match st with
  | .long x :: r => bif Nat.blt (k + 1) mx then some (p, s_setL ls k (.long x), r) else none
  | _ => none
def s_ast (mx k : Nat) (p : Nat) (ls : sL) (st : List Value) : sP := match st with
  | .ref a :: r => bif Nat.blt k mx then some (p, s_set ls k (.ref a), r) else none
  | .null :: r => bif Nat.blt k mx then some (p, s_set ls k .null, r) else none
  | _ => none
def s_iinc (mx k : Nat) (n : Int) (p : Nat) (ls : sL) (st : List Value) : sP := match s_get ls k with
  | some (.int x) => bif Nat.blt k mx then some (p, s_set ls k (.int (x + Int32.ofInt n)), st) else none
  | _ => none
def s_gf (n : Nat) (p : Nat) (ls : sL) (st : List Value) (M : sM) : sP := match st with
  | .ref a :: r => (match s_fld M a n with
    | some v => some (p, ls, v :: r)
    | none => none)
  | _ => none
def s_ia (E : sE) (p : Nat) (ls : sL) (st : List Value) (M : sM) : sP := match st with
  | .int i :: .ref a :: r => (match s_at M a i (fun k => Nat.beq k 13) with
    | some (.int x) => some (p, ls, .int x :: r)
    | _ => none)
  | .int i :: .retAddr j :: r => bif !decide (i < 0) && (Nat.blt i.toNatClampNeg (E j).1 && Nat.blt j (E 3).1) then some (p, ls, .int ((E j).2 i.toNatClampNeg) :: r) else none
  | _ => none
def s_ba (p : Nat) (ls : sL) (st : List Value) (M : sM) : sP := match st with
  | .int i :: .ref a :: r => (match s_at M a i (fun k => Nat.beq k 12 || Nat.beq k 16) with
    | some (.int x) => some (p, ls, .int x :: r)
    | _ => none)
  | _ => none
def s_sa (p : Nat) (ls : sL) (st : List Value) (M : sM) : sP := match st with
  | .int i :: .ref a :: r => (match s_at M a i (fun k => Nat.beq k 15) with
    | some (.int x) => some (p, ls, .int x :: r)
    | _ => none)
  | _ => none
def s_la (p : Nat) (ls : sL) (st : List Value) (M : sM) : sP := match st with
  | .int i :: .ref a :: r => (match s_at M a i (fun k => Nat.beq k 14) with
    | some (.long x) => some (p, ls, .long x :: r)
    | _ => none)
  | _ => none
def s_aa (p : Nat) (ls : sL) (st : List Value) (M : sM) : sP := match st with
  | .int i :: .ref a :: r => (match s_at M a i (fun k => Nat.ble 17 k && Nat.ble k 19) with
    | some (.ref x) => some (p, ls, .ref x :: r)
    | some .null => some (p, ls, .null :: r)
    | _ => none)
  | _ => none
def s_len (E : sE) (p : Nat) (ls : sL) (st : List Value) (M : sM) : sP := match st with
  | .ref a :: r => (match M[a]? with
    | some c => bif Nat.ble 12 c.1 && Nat.ble c.1 19 then some (p, ls, .int (Int32.ofNat c.2.length) :: r) else none
    | none => none)
  | .retAddr j :: r => bif Nat.blt j (E 3).1 then some (p, ls, .int (Int32.ofNat (E j).1) :: r) else none
  | _ => none
def s_jump (o : Option Nat) (ls : sL) (r : List Value) : sP := match o with
  | some t => some (t, ls, r)
  | none => none
def s_lkup (dflt : Int) (ps : Array (Int × Int)) (pc : Nat) (ls : sL) (st : List Value) : sP := match st with
  | .int x :: r => bif (ps.toList.zip (ps.toList.drop 1)).all (fun q => decide (q.1.1 < q.2.1)) then s_jump (s_tgt pc (Op.lookupswitch.offset ps.toList dflt x.toInt)) ls r else none
  | _ => none
def s_tsw (dflt lo hi : Int) (offs : Array Int) (pc : Nat) (ls : sL) (st : List Value) : sP := match st with
  | .int x :: r => bif decide (x.toInt < lo) || decide (hi < x.toInt) then s_jump (s_tgt pc dflt) ls r else (match offs[(x.toInt - lo).toNat]? with
    | some off => s_jump (s_tgt pc off) ls r
    | none => none)
  | _ => none
/-- the instructions that write no cell -/
def s_pure (E : sE) (mx : Nat) (i : Jvm.ClassFile.Instr) (pc p : Nat) (ls : sL) (st : List Value) (M : sM) : sP := match i with
  | .aload k => s_ald k p ls st
  | .aload_n k => s_ald k.val p ls st
  | .iload k => s_ild k p ls st
  | .iload_n k => s_ild k.val p ls st
  | .lload k => s_lld k p ls st
  | .lload_n k => s_lld k.val p ls st
  | .istore k => s_ist mx k p ls st
  | .istore_n k => s_ist mx k.val p ls st
  | .lstore k => s_lst mx k p ls st
  | .lstore_n k => s_lst mx k.val p ls st
  | .astore k => s_ast mx k p ls st
  | .astore_n k => s_ast mx k.val p ls st
  | .iinc k n => s_iinc mx k n p ls st
  | .iconst n => some (p, ls, .int (Int32.ofInt n) :: st)
  | .bipush n => some (p, ls, .int (Int8.ofInt n).toInt32 :: st)
  | .sipush n => some (p, ls, .int (Int16.ofInt n).toInt32 :: st)
  | .lconst n => some (p, ls, .long (Int64.ofNat n.val) :: st)
  | .ldc n => some (p, ls, .int (Int32.ofNat n) :: st)
  | .ldc_w n => some (p, ls, .int (Int32.ofNat n) :: st)
  | .ldc2_w n => some (p, ls, .long (Int64.ofNat n) :: st)
  | .aconst_null => some (p, ls, .null :: st)
  | .iadd => s_i2 st (fun x y => x + y) p ls
  | .isub => s_i2 st (fun x y => x - y) p ls
  | .imul => s_i2 st (fun x y => x * y) p ls
  | .iand => s_i2 st (fun x y => x &&& y) p ls
  | .ior => s_i2 st (fun x y => x ||| y) p ls
  | .ixor => s_i2 st (fun x y => x ^^^ y) p ls
  | .ishl => s_i2 st (fun x y => x <<< (y &&& 31)) p ls
  | .ishr => s_i2 st (fun x y => x >>> (y &&& 31)) p ls
  | .iushr => s_i2 st (fun x y => (x.toUInt32 >>> (y.toUInt32 &&& Int32.toUInt32 31)).toInt32) p ls
  | .idiv => (match st with
    | .int y :: _ => bif decide (y = 0) then none else s_i2 st (fun x y => x / y) p ls
    | _ => none)
  | .irem => (match st with
    | .int y :: _ => bif decide (y = 0) then none else s_i2 st (fun x y => x - x / y * y) p ls
    | _ => none)
  | .ineg => s_i1 st (fun x => .int (-x)) p ls
  | .i2l => s_i1 st (fun x => .long x.toInt64) p ls
  | .i2b => s_i1 st (fun x => .int x.toInt8.toInt32) p ls
  | .i2s => s_i1 st (fun x => .int x.toInt16.toInt32) p ls
  | .l2i => (match st with
    | .long x :: r => some (p, ls, .int x.toInt32 :: r)
    | _ => none)
  | .ladd => s_l2 st (fun x y => x + y) p ls
  | .lsub => s_l2 st (fun x y => x - y) p ls
  | .land => s_l2 st (fun x y => x &&& y) p ls
  | .lor => s_l2 st (fun x y => x ||| y) p ls
  | .lshl => s_li st (fun x y => x <<< (y.toInt64 &&& 63)) p ls
  | .lushr => s_li st (fun x y => (x.toUInt64 >>> (y.toInt64.toUInt64 &&& Int64.toUInt64 63)).toInt64) p ls
  | .lcmp => (match st with
    | .long y :: .long x :: r => some (p, ls, .int (lg_cmp x y) :: r)
    | _ => none)
  | .dup => (match st with
    | v :: r => bif Nat.beq v.category 1 then some (p, ls, v :: v :: r) else none
    | _ => none)
  | .pop => (match st with
    | v :: r => bif Nat.beq v.category 1 then some (p, ls, r) else none
    | _ => none)
  | .dup2 => (match st with
    | v :: w :: r => bif Nat.beq v.category 1 && Nat.beq w.category 1 then some (p, ls, v :: w :: v :: w :: r) else none
    | _ => none)
  | .goto off => s_jump (s_tgt pc off) ls st
  | .ifCond c off => (match st with
    | .int x :: r => s_jump (s_br (s_c1 c x) pc off) ls r
    | _ => none)
  | .if_icmp c off => (match st with
    | .int y :: .int x :: r => s_jump (s_br (s_c2 c x y) pc off) ls r
    | _ => none)
  | .ifnull off => (match st with
    | .null :: r => s_jump (s_tgt pc off) ls r
    | .ref _ :: r => some (p, ls, r)
    | _ => none)
  | .ifnonnull off => (match st with
    | .null :: r => some (p, ls, r)
    | .ref _ :: r => s_jump (s_tgt pc off) ls r
    | _ => none)
  | .lookupswitch dflt ps => s_lkup dflt ps pc ls st
  | .tableswitch dflt lo hi offs => s_tsw dflt lo hi offs pc ls st
  | .getfield n => s_gf n p ls st M
  | .getstatic j => bif Nat.blt j 2 then some (p, ls, .retAddr j :: st) else none
  | .iaload => s_ia E p ls st M
  | .baload => s_ba p ls st M
  | .saload => s_sa p ls st M
  | .laload => s_la p ls st M
  | .aaload => s_aa p ls st M
  | .arraylength => s_len E p ls st M
  | _ => none
def s_fit (ty : FieldType) (v : Value) : Bool := match ty, v with
  | .int, .int _ => true
  | .long, .long _ => true
  | .boolean, .int x => decide (x = 0) || decide (x = 1)
  | .object _, .null => true
  | .object _, .ref _ => true
  | .array _, .null => true
  | .array _, .ref _ => true
  | _, _ => false
def s_pf (fty : Nat → Nat → FieldType) (n : Nat) (st : List Value) (M : sM) : Option (List Value × sM) := match st with
  | v :: .ref a :: r => (match M[a]? with
    | some c => bif Nat.beq c.1 (n / 64) && (s_fit (fty (n / 64) (n % 64)) v && Nat.blt (n % 64) c.2.length) then some (r, M.set a (c.1, c.2.set (n % 64) v)) else none
    | none => none)
  | _ => none
def s_ps (M : sM) (a : Nat) (i : Int32) (v : Value) (ok : Nat → Bool) (r : List Value) : Option (List Value × sM) := match M[a]? with
  | some c => bif ok c.1 && (!decide (i < 0) && Nat.blt i.toNatClampNeg c.2.length) then some (r, M.set a (c.1, c.2.set i.toNatClampNeg v)) else none
  | none => none
def s_kd (M : sM) (a : Nat) : Nat := match M[a]? with
  | some c => c.1
  | none => 99
def s_cpy (src dst : List Value) (sp dp n : Nat) : List Value := dst.take dp ++ ((src.drop sp).take n ++ dst.drop (dp + n))
def s_ac (st : List Value) (M : sM) : Option (List Value × sM) := match st with
  | .int n :: .int dp :: .ref b :: .int sp :: .ref a :: r => (match M[a]?, M[b]? with
    | some ca, some cb => bif (Nat.beq ca.1 cb.1 && (Nat.beq ca.1 13 || Nat.beq ca.1 14)) && ((!decide (sp < 0) && (!decide (dp < 0) && !decide (n < 0))) && (Nat.ble (sp.toNatClampNeg + n.toNatClampNeg) ca.2.length && Nat.ble (dp.toNatClampNeg + n.toNatClampNeg) cb.2.length)) && Nat.ble (r.map fun v => v.category).sum 8
      then some (r, M.set b (cb.1, s_cpy ca.2 cb.2 sp.toNatClampNeg dp.toNatClampNeg n.toNatClampNeg)) else none
    | _, _ => none)
  | _ => none
/-- the instructions that write a cell -/
def s_wr (fty : Nat → Nat → FieldType) (i : Jvm.ClassFile.Instr) (st : List Value) (M : sM) : Option (List Value × sM) := match i with
  | .putfield n => s_pf fty n st M
  | .putstatic n => s_pf fty n st M
  | .iastore => (match st with
    | .int x :: .int j :: .ref a :: r => s_ps M a j (.int x) (fun k => Nat.beq k 13) r
    | _ => none)
  | .bastore => (match st with
    | .int x :: .int j :: .ref a :: r => bif Nat.beq (s_kd M a) 12 then s_ps M a j (.int (vp_nar .byte x)) (fun k => Nat.beq k 12) r else s_ps M a j (.int (vp_nar .boolean x)) (fun k => Nat.beq k 16) r
    | _ => none)
  | .sastore => (match st with
    | .int x :: .int j :: .ref a :: r => s_ps M a j (.int (vp_nar .short x)) (fun k => Nat.beq k 15) r
    | _ => none)
  | .lastore => (match st with
    | .long x :: .int j :: .ref a :: r => s_ps M a j (.long x) (fun k => Nat.beq k 14) r
    | _ => none)
  | .aastore => (match st with
    | .ref v :: .int j :: .ref a :: r => s_ps M a j (.ref v) (fun k => (Nat.beq k 17 && Nat.beq (s_kd M v) 0) || ((Nat.beq k 18 && Nat.beq (s_kd M v) 4) || (Nat.beq k 19 && Nat.beq (s_kd M v) 6))) r
    | _ => none)
  | _ => none
def s_dv : FieldType → Value
  | .int => .int 0
  | .boolean => .int 0
  | .long => .long 0
  | _ => .null
def s_ak : ArrayType → Option (Nat × Value)
  | .byte => some (12, .int 0)
  | .int => some (13, .int 0)
  | .long => some (14, .long 0)
  | .short => some (15, .int 0)
  | .boolean => some (16, .int 0)
  | _ => none
def s_na (k : Nat) (v : Value) (n : Int32) (r : List Value) (M : sM) : Option (List Value × sM) := bif !decide (n < 0) && Nat.ble n.toNatClampNeg 100000 then some (.ref M.length :: r, M ++ [(k, List.replicate n.toNatClampNeg v)]) else none
/-- the instructions that make a cell -/
def s_al (ft : List (Nat × (Nat → FieldType))) (i : Jvm.ClassFile.Instr) (st : List Value) (M : sM) : Option (List Value × sM) := match i with
  | .new k => (match ft[k]? with
    | some q => some (.ref M.length :: st, M ++ [(k, (List.range q.1).map (fun j => s_dv (q.2 j)))])
    | none => none)
  | .newarray t => (match st with
    | .int n :: r => (match s_ak t with
      | some q => s_na q.1 q.2 n r M
      | none => none)
    | _ => none)
  | .anewarray k => (match st with
    | .int n :: r => bif Nat.ble 17 k && Nat.ble k 19 then s_na k .null n r M else none
    | _ => none)
  | _ => none
/-- the top n values, the deepest first, and what lies below -/
def s_split : Nat → List Value → List Value → Option (List Value × List Value)
  | 0, acc, st => some (acc, st)
  | _ + 1, _, [] => none
  | n + 1, acc, v :: st => s_split n (v :: acc) st
def s_room (mx : Nat) (as r : List Value) : Bool := Nat.ble (r.map fun v => v.category).sum 8 && (Nat.ble (lg_sl as).length mx && Nat.ble mx 40)
def s_call (rec : Nat → sMeth → Nat → sL → List Value → sM → sR) (d : Nat) (μ ν : sMeth) (p : Nat) (ls : sL) (as r : List Value) (M : sM) : sR := match d with
  | 0 => none
  | d' + 1 => bif s_room ν.1 as r then (match rec d' ν 0 (lv_args 0 as) [] M with
    | some (some v, M') => rec (d' + 1) μ p ls (v :: r) M'
    | some (none, M') => rec (d' + 1) μ p ls r M'
    | none => none) else none
def s_rv (rt : Option FieldType) (v : Value) : Bool := match rt, v with
  | some .int, .int _ => true
  | some .boolean, .int x => decide (x = 0) || decide (x = 1)
  | some .long, .long _ => true
  | some (.object _), .ref _ => true
  | some (.object _), .null => true
  | _, _ => false
def s_step (prog : Nat → Option sMeth) (fty : Nat → Nat → FieldType) (ft : List (Nat × (Nat → FieldType))) (E : sE) (rec : Nat → sMeth → Nat → sL → List Value → sM → sR) (d : Nat) (μ : sMeth) (pc : Nat) (ls : sL) (st : List Value) (M : sM) : sR :=
  match s_fetch μ.2.2.2 pc with
  | none => none
  | some i => (match i.1 with
    | .invokevirtual w => (match s_split (w % 8) [] st with
      | some (as, .ref a :: r) => (match prog (w / 8) with
        | some ν => bif Nat.beq (s_kd M a) ν.2.2.1 then s_call rec d μ ν (pc + 3) ls (.ref a :: as) r M else none
        | none => none)
      | _ => none)
    | .invokespecial w => bif Nat.beq w 0 then (match d, st with
        | _ + 1, .ref _ :: r => bif Nat.ble (r.map fun v => v.category).sum 8 then rec d μ (pc + 3) ls r M else none
        | _, _ => none)
      else (match s_split (w % 8) [] st with
      | some (as, .ref a :: r) => (match prog (w / 8) with
        | some ν => s_call rec d μ ν (pc + 3) ls (.ref a :: as) r M
        | none => none)
      | _ => none)
    | .invokestatic w => (match s_split (w % 8) [] st with
      | some (as, r) => (match prog (w / 8) with
        | some ν => s_call rec d μ ν (pc + 3) ls as r M
        | none => none)
      | _ => none)
    | .invokeinterface w _ => (match s_split (w % 8) [] st with
      | some (as, r) => (match prog (w / 8) with
        | some ν => s_call rec d μ ν (pc + 3) ls as r M
        | none => none)
      | _ => none)
    | .invokedynamic w => (match d with
      | 0 => none
      | _ + 1 => bif Nat.beq w 0 then (match s_ac st M with
          | some (r, M') => rec d μ (pc + 3) ls r M'
          | none => none)
        else (match st with
          | .int y :: .int x :: r => bif Nat.ble (r.map fun v => v.category).sum 8 then rec d μ (pc + 3) ls (.int (bif Nat.beq w 1 then (if y < x then y else x) else (if x < y then y else x)) :: r) M else none
          | _ => none))
    | .ireturn => (match st with
      | [.int x] => bif s_rv μ.2.1 (.int x) then some (some (.int x), M) else none
      | _ => none)
    | .lreturn => (match st with
      | [.long x] => bif s_rv μ.2.1 (.long x) then some (some (.long x), M) else none
      | _ => none)
    | .areturn => (match st with
      | [v] => bif s_rv μ.2.1 v && !Nat.beq v.category 2 then (match v with
        | .ref a => some (some (.ref a), M)
        | .null => some (some .null, M)
        | _ => none) else none
      | _ => none)
    | .return_ => (match st, μ.2.1 with
      | [], none => some (none, M)
      | _, _ => none)
    | .putfield _ | .putstatic _ | .iastore | .bastore | .sastore | .lastore | .aastore => (match s_wr fty i.1 st M with
      | some (r, M') => rec d μ (pc + i.2) ls r M'
      | none => none)
    | .new _ | .newarray _ | .anewarray _ => (match s_al ft i.1 st M with
      | some (r, M') => rec d μ (pc + i.2) ls r M'
      | none => none)
    | j => (match s_pure E μ.1 j pc (pc + i.2) ls st M with
      | some (p', ls', st') => rec d μ p' ls' st' M
      | none => none))
noncomputable def s_x (prog : Nat → Option sMeth) (fty : Nat → Nat → FieldType) (ft : List (Nat × (Nat → FieldType))) (E : sE) (n : Nat) : Nat → sMeth → Nat → sL → List Value → sM → sR :=
  Nat.rec (motive := fun _ => Nat → sMeth → Nat → sL → List Value → sM → sR) (fun _ _ _ _ _ _ => none) (fun _ ih => s_step prog fty ft E ih) n
theorem s_x0 {prog : Nat → Option sMeth} {fty : Nat → Nat → FieldType} {ft : List (Nat × (Nat → FieldType))} {E : sE} {d : Nat} {μ : sMeth} {pc : Nat} {ls : sL} {st : List Value} {M : sM} : s_x prog fty ft E 0 d μ pc ls st M = none := rfl
theorem s_xs {prog : Nat → Option sMeth} {fty : Nat → Nat → FieldType} {ft : List (Nat × (Nat → FieldType))} {E : sE} {n : Nat} : s_x prog fty ft E (n + 1) = s_step prog fty ft E (s_x prog fty ft E n) := rfl
end
section
def s_cls : List String := ["OldestLaw$Cases", "OldestLaw$Changes", "OldestLaw$Clauses", "OldestLaw$Court", "OldestLaw$Law", "OldestLaw$Reader", "OldestLaw$Shelf", "OldestLaw$Text", "OldestLaw$Wordings", "OldestLaw$Words", "OldestLaw", "OldestLawModel", "OldestLawLaw", "java/lang/Integer", "java/lang/Long"]
def s_tF : List (Nat × (Nat × (Nat × Nat))) := [(0, 9, 0, 205), (0, 15, 1, 206), (1, 7, 64, 306), (1, 13, 65, 308), (1, 16, 66, 309), (1, 20, 67, 310), (1, 23, 68, 311), (1, 26, 69, 312), (2, 9, 128, 368), (2, 15, 129, 370), (2, 18, 130, 372), (2, 22, 131, 373), (3, 12, 192, 263), (3, 18, 193, 265), (3, 22, 194, 267), (3, 25, 195, 270), (3, 28, 196, 272), (3, 33, 197, 274), (3, 40, 198, 275), (3, 44, 199, 276), (3, 48, 200, 277), (3, 51, 201, 278), (3, 58, 257, 218), (3, 61, 258, 222), (3, 64, 259, 225), (3, 67, 260, 227), (3, 77, 256, 213), (3, 108, 261, 231), (4, 9, 257, 216), (4, 15, 258, 220), (4, 18, 259, 224), (4, 24, 260, 226), (4, 31, 261, 228), (4, 35, 262, 232), (4, 38, 263, 233), (4, 41, 264, 234), (4, 44, 265, 235), (4, 47, 266, 236), (4, 50, 267, 237), (4, 53, 256, 212), (5, 12, 320, 151), (5, 18, 321, 153), (5, 22, 322, 154), (5, 26, 323, 155), (6, 11, 384, 390), (6, 15, 385, 392), (6, 18, 386, 394), (6, 21, 387, 396), (7, 9, 448, 140), (7, 15, 449, 141), (7, 18, 450, 142), (8, 14, 512, 343), (8, 22, 513, 344), (8, 27, 514, 345), (8, 33, 515, 346), (8, 37, 516, 347), (8, 41, 517, 348), (8, 47, 257, 217), (8, 50, 258, 221), (8, 79, 261, 229), (8, 94, 194, 268), (8, 103, 256, 214), (9, 9, 576, 177), (9, 13, 577, 178), (9, 16, 578, 179), (9, 19, 579, 180), (10, 9, 640, 409), (10, 13, 641, 410), (10, 17, 642, 411), (10, 23, 643, 412), (10, 30, 644, 413), (10, 37, 645, 414), (10, 44, 646, 415), (10, 51, 647, 416), (10, 57, 648, 417), (10, 62, 649, 418), (10, 69, 650, 419), (10, 73, 651, 420), (10, 83, 193, 266), (10, 90, 320, 152), (10, 109, 384, 391), (10, 116, 386, 395), (10, 152, 192, 264), (10, 164, 195, 271), (10, 170, 194, 269), (10, 185, 261, 230), (10, 204, 258, 223), (10, 207, 256, 215), (10, 278, 196, 273), (10, 281, 257, 219), (10, 372, 385, 393), (10, 384, 64, 307), (10, 387, 128, 369), (10, 388, 129, 371), (11, 7, 705, 1175), (11, 13, 711, 1181), (11, 16, 712, 1182), (11, 20, 713, 1183), (11, 23, 714, 1184), (11, 27, 715, 1185), (11, 30, 716, 1186), (11, 33, 717, 1187), (11, 36, 719, 1189), (11, 39, 720, 1190), (11, 42, 721, 1191), (11, 45, 723, 1193), (11, 49, 724, 1194), (11, 52, 725, 1195), (11, 55, 726, 1196), (11, 58, 729, 1199), (11, 61, 730, 1200), (11, 64, 731, 1201), (11, 67, 732, 1202), (11, 70, 733, 1203), (11, 74, 736, 1206), (11, 77, 737, 1207), (11, 80, 738, 1208), (11, 83, 741, 1211), (11, 86, 742, 1212), (11, 89, 743, 1213), (11, 92, 744, 1214), (11, 95, 745, 1215), (11, 98, 747, 1217), (11, 101, 749, 1219), (11, 104, 750, 1220), (11, 107, 751, 1221), (11, 110, 752, 1222), (11, 114, 753, 1223), (11, 124, 706, 1176), (11, 127, 707, 1177), (11, 130, 708, 1178), (11, 133, 710, 1180), (11, 136, 709, 1179), (11, 189, 718, 1188), (11, 211, 722, 1192), (11, 218, 728, 1198), (11, 221, 727, 1197), (11, 234, 735, 1205), (11, 243, 734, 1204), (11, 341, 739, 1209), (11, 345, 740, 1210), (11, 348, 746, 1216), (11, 351, 748, 1218)]
def s_tS : List (Nat × (Nat × (Nat × Nat))) := [(2, 25, 0, 1070), (2, 40, 1, 1065)]
def s_tV : List (Nat × (Nat × (Nat × Nat))) := [(0, 32, 65, 825), (1, 29, 112, 606), (2, 32, 233, 1046), (2, 36, 284, 1050), (2, 43, 241, 1054), (2, 46, 293, 1058), (2, 54, 265, 1072), (2, 58, 300, 1076), (2, 61, 308, 1080), (3, 54, 329, 544), (3, 71, 833, 548), (3, 80, 321, 635), (3, 84, 369, 708), (3, 87, 515, 640), (3, 91, 392, 692), (3, 94, 401, 700), (3, 97, 489, 696), (3, 101, 376, 704), (3, 105, 409, 744), (3, 112, 65, 745), (3, 117, 498, 746), (3, 121, 418, 796), (3, 129, 752, 772), (3, 134, 761, 776), (3, 137, 777, 791), (3, 141, 426, 792), (3, 145, 785, 800), (3, 148, 40, 927), (3, 151, 57, 928), (4, 56, 489, 750), (4, 60, 80, 751), (4, 64, 504, 752), (4, 67, 1042, 644), (4, 73, 40, 656), (4, 81, 841, 663), (4, 85, 57, 688), (5, 44, 800, 473), (5, 47, 568, 477), (5, 51, 560, 509), (5, 55, 576, 481), (5, 58, 553, 527), (5, 62, 585, 485), (5, 66, 817, 516), (5, 70, 808, 532), (5, 73, 825, 536), (5, 76, 593, 489), (5, 79, 601, 493), (5, 82, 609, 497), (5, 85, 617, 501), (5, 88, 625, 505), (5, 98, 632, 523), (6, 29, 737, 1137), (6, 33, 714, 1154), (6, 43, 777, 780), (6, 47, 785, 786), (6, 50, 752, 842), (6, 54, 761, 843), (6, 57, 721, 784), (7, 29, 849, 668), (7, 33, 866, 672), (8, 44, 48, 337), (8, 53, 1042, 848), (8, 59, 921, 849), (8, 63, 40, 853), (8, 73, 57, 858), (8, 76, 944, 870), (8, 82, 74, 874), (8, 86, 752, 863), (8, 90, 777, 864), (8, 99, 418, 865), (8, 106, 928, 866), (8, 109, 970, 875), (8, 113, 952, 888), (8, 115, 936, 892), (8, 118, 329, 879), (8, 122, 979, 880), (8, 126, 785, 886), (8, 133, 65, 884), (8, 137, 498, 885), (8, 141, 761, 904), (8, 144, 996, 905), (8, 148, 1003, 909), (9, 22, 1025, 648), (9, 25, 1033, 652), (10, 86, 546, 460), (10, 94, 348, 540), (10, 101, 1409, 560), (10, 105, 672, 564), (10, 112, 1098, 568), (10, 119, 721, 572), (10, 129, 1115, 586), (10, 134, 354, 598), (10, 138, 108, 602), (10, 142, 363, 611), (10, 146, 321, 590), (10, 156, 1019, 619), (10, 161, 1138, 627), (10, 167, 1042, 724), (10, 173, 369, 631), (10, 176, 384, 636), (10, 179, 409, 709), (10, 182, 329, 713), (10, 190, 80, 714), (10, 197, 65, 732), (10, 200, 418, 740), (10, 210, 442, 756), (10, 214, 1417, 764), (10, 217, 449, 768), (10, 221, 336, 805), (10, 227, 40, 816), (10, 230, 74, 817), (10, 234, 88, 821), (10, 237, 1427, 834), (10, 241, 768, 838), (10, 244, 908, 844), (10, 248, 962, 859), (10, 252, 986, 900), (10, 256, 456, 917), (10, 259, 1025, 921), (10, 262, 1033, 922), (10, 265, 465, 923), (10, 274, 401, 939), (10, 284, 426, 948), (10, 287, 57, 949), (10, 289, 473, 954), (10, 292, 520, 962), (10, 295, 1048, 966), (10, 296, 528, 975), (10, 299, 1056, 979), (10, 300, 120, 983), (10, 303, 128, 991), (10, 306, 161, 995), (10, 308, 169, 999), (10, 311, 177, 1003), (10, 314, 144, 1007), (10, 317, 136, 1015), (10, 320, 185, 1019), (10, 323, 152, 1023), (10, 329, 225, 1034), (10, 331, 259, 1042), (10, 334, 249, 1088), (10, 337, 233, 1096), (10, 338, 688, 1097), (10, 341, 697, 1101), (10, 347, 706, 1112), (10, 351, 1434, 1120), (10, 354, 730, 1133), (10, 361, 680, 1124), (10, 364, 714, 1129), (10, 368, 748, 1150), (10, 375, 241, 1160), (10, 381, 376, 1168), (11, 139, 1480, 1386), (11, 142, 1472, 1371), (11, 146, 1490, 1378), (11, 154, 1504, 1382), (11, 158, 1520, 1367), (11, 161, 1560, 1347), (11, 164, 1512, 1390), (11, 167, 1528, 1363), (11, 170, 1536, 1359), (11, 173, 1544, 1355), (11, 176, 1552, 1351), (11, 179, 1568, 1343), (11, 186, 1595, 1474), (11, 192, 1577, 1339), (11, 195, 1627, 1394), (11, 204, 1649, 1406), (11, 207, 1643, 1410), (11, 214, 1666, 1438), (11, 224, 1675, 1418), (11, 227, 1609, 1430), (11, 230, 1683, 1434), (11, 237, 1729, 1489), (11, 240, 1617, 1497), (11, 246, 1738, 1485), (11, 250, 1745, 1493), (11, 253, 1721, 1451), (11, 259, 1601, 1470), (11, 262, 1770, 1463), (11, 265, 1776, 1459), (11, 268, 1754, 1481), (11, 271, 1784, 1455), (11, 277, 1851, 1519), (11, 280, 1858, 1515), (11, 289, 1898, 1542), (11, 292, 1906, 1546), (11, 295, 1914, 1538), (11, 298, 1866, 1550), (11, 301, 1889, 1530), (11, 304, 1921, 1534), (11, 310, 1954, 1577), (11, 313, 1969, 1585), (11, 316, 1986, 1569), (11, 319, 1962, 1573), (11, 322, 1977, 1581), (11, 325, 2002, 1593), (11, 328, 2017, 1601), (11, 332, 2026, 1605), (11, 338, 2065, 1628), (11, 354, 2105, 1663), (11, 357, 2138, 1667), (11, 363, 2146, 1671), (11, 366, 2154, 1656), (11, 369, 2162, 1683), (11, 372, 2170, 1679), (11, 375, 2202, 1687), (11, 378, 2186, 1695), (11, 381, 2194, 1691), (11, 384, 2178, 1675), (11, 387, 2210, 1703), (11, 390, 2097, 1652), (11, 393, 2218, 1699), (11, 396, 1816, 1719), (11, 399, 1824, 1711), (11, 402, 2232, 1715), (11, 405, 2274, 1735), (12, 13, 1073, 446), (12, 17, 1465, 1328), (12, 18, 1082, 450), (12, 22, 1634, 1335), (12, 23, 1091, 553), (12, 27, 1659, 1398), (12, 28, 1107, 582), (12, 31, 1707, 1426), (12, 32, 1123, 615), (12, 35, 1715, 1443), (12, 36, 1130, 623), (12, 39, 1834, 1447), (12, 40, 1146, 725), (12, 43, 1874, 1501), (12, 44, 1154, 736), (12, 47, 1882, 1511), (12, 48, 1161, 760), (12, 51, 1929, 1526), (12, 52, 1168, 801), (12, 56, 1936, 1554), (12, 57, 1178, 809), (12, 60, 1946, 1558), (12, 61, 1187, 830), (12, 64, 1995, 1565), (12, 65, 1195, 896), (12, 68, 2011, 1589), (12, 69, 1202, 913), (12, 72, 2034, 1597), (12, 73, 1209, 929), (12, 76, 2041, 1609), (12, 77, 1218, 940), (12, 80, 2050, 1616), (12, 81, 1226, 944), (12, 84, 2058, 1620), (12, 85, 1232, 950), (12, 88, 2072, 1624), (12, 89, 1240, 958), (12, 92, 2080, 1632), (12, 93, 1248, 971), (12, 96, 2088, 1636), (12, 97, 1256, 987), (12, 100, 1688, 1414), (12, 101, 1264, 1011), (12, 104, 1696, 1422), (12, 105, 1273, 1027), (12, 108, 2121, 1644), (12, 109, 1283, 1038), (12, 112, 2227, 1648), (12, 113, 1289, 1084), (12, 116, 2113, 1640), (12, 117, 1298, 1092), (12, 120, 2258, 1723), (12, 121, 1307, 1105), (12, 124, 2267, 1727), (12, 127, 1315, 1116), (12, 131, 2283, 1731), (12, 132, 1322, 1141), (12, 136, 2290, 1739), (12, 137, 1333, 1146), (12, 141, 2301, 1744), (12, 142, 1338, 1156), (12, 145, 2306, 1748), (12, 146, 1345, 1164), (12, 149, 2241, 1707)]
def s_tI : List (Nat × (Nat × (Nat × Nat))) := [(0, 3, 0, 204), (1, 1, 0, 305), (2, 3, 0, 367), (3, 3, 0, 170), (3, 11, 1008, 173), (3, 37, 481, 193), (4, 3, 0, 196), (4, 23, 792, 198), (4, 30, 8, 201), (5, 3, 0, 133), (5, 11, 792, 136), (6, 3, 0, 389), (7, 3, 0, 139), (8, 3, 0, 331), (8, 11, 481, 333), (8, 26, 8, 336), (9, 1, 0, 176), (10, 1, 0, 125), (10, 22, 536, 130), (10, 29, 312, 167), (10, 36, 96, 302), (10, 43, 896, 328), (10, 50, 192, 364), (10, 61, 656, 386), (10, 68, 8, 408), (11, 1, 0, 1174), (12, 9, 1064, 122), (12, 12, 1440, 1171)]
def s_tT : List (Nat × (Nat × (Nat × Nat))) := [(0, 18, 34, 829), (0, 26, 2321, 718), (0, 36, 25, 826), (2, 28, 209, 1067), (2, 50, 274, 1062), (3, 125, 433, 797), (4, 78, 34, 660), (5, 91, 649, 513), (5, 95, 641, 520), (6, 25, 665, 1128), (6, 61, 17, 785), (7, 37, 858, 685), (7, 41, 874, 676), (7, 44, 883, 682), (7, 48, 889, 679), (8, 66, 34, 854), (8, 69, 915, 855), (8, 129, 433, 887), (10, 76, 1353, 454), (10, 80, 1361, 457), (10, 98, 1401, 557), (10, 123, 1369, 576), (10, 126, 1377, 579), (10, 149, 1385, 594), (10, 193, 17, 729), (10, 224, 1393, 813), (10, 269, 2313, 933), (10, 326, 201, 1031), (10, 344, 665, 1109), (10, 378, 218, 1161), (11, 120, 1451, 1332), (11, 150, 1497, 1375), (11, 182, 1587, 1478), (11, 198, 2249, 1402), (11, 256, 1762, 1467), (11, 274, 1841, 1523), (11, 283, 1809, 1505), (11, 286, 1793, 1508), (11, 307, 1801, 1562), (11, 335, 1457, 1613), (11, 360, 2130, 1660)]
def s_tN : List (Nat × (Nat × (Nat × Nat))) := [(1, 32, 0, 610), (5, 29, 1, 464), (5, 35, 2, 467), (5, 38, 0, 470), (6, 37, 0, 1155), (7, 22, 0, 552), (9, 27, 0, 970)]
def s_tC : List (Nat × (Nat × (Nat × Nat))) := [(3, 9, 9, 171), (3, 31, 4, 190), (4, 21, 7, 197), (4, 28, 0, 199), (5, 9, 7, 134), (8, 9, 4, 332), (8, 20, 0, 334), (10, 20, 5, 128), (10, 27, 3, 165), (10, 34, 1, 300), (10, 41, 8, 326), (10, 48, 2, 362), (10, 55, 6, 383), (10, 66, 0, 407), (12, 7, 10, 120), (12, 10, 11, 1169)]
def s_tA : List (Nat × (Nat × (Nat × Nat))) := [(3, 31, 18, 190), (8, 20, 17, 334), (10, 55, 19, 383)]
def s_tK : List (Nat × (Nat × (Nat × Nat))) := [(5, 65, 40000, 531), (7, 28, 40000, 667), (10, 133, 2294967296, 597), (11, 233, 2294967296, 1442), (13, 265, 1431655765, 936), (13, 266, 858993459, 937), (13, 267, 252645135, 938)]
def s_tL : List (Nat × (Nat × (Nat × Nat))) := [(0, 22, 18446744073709551615, 341), (0, 24, 2305843009213693951, 342), (10, 359, 9223372036854775808, 1145), (11, 202, 5, 1405), (11, 410, 9223372036854775808, 1743), (12, 125, 4294967295, 1752), (14, 314, 6148914691236517205, 721), (14, 316, 3689348814741910323, 722), (14, 318, 1085102592571150095, 723)]
def s_tH : List (Nat × (Nat × (Nat × Nat))) := [(6, 66, 1361, 790)]
end
section
def s_cd1 : sCode := [[some (.aload_n 0, 1), some (.invokespecial 0, 3), none, none, some (.aload_n 0, 1), some (.lconst 0, 1), some (.putfield 0, 3), none, none, some (.aload_n 0, 1), some (.lconst 0, 1), some (.putfield 1, 3), none, none, some (.return_, 1)]]
def s_cd2 : sCode := [[some (.iload_n 0, 1), some (.ifCond .lt 29, 3), none, none, some (.iload_n 0, 1), some (.sipush 444, 3), none, none, some (.if_icmp .gt 22, 3), none, none, some (.iload_n 0, 1), some (.bipush 10, 2), none, some (.idiv, 1), some (.bipush 10, 2)], [none, some (.irem, 1), some (.iconst 4, 1), some (.if_icmp .gt 11, 3), none, none, some (.iload_n 0, 1), some (.bipush 10, 2), none, some (.irem, 1), some (.iconst 4, 1), some (.if_icmp .le 5, 3), none, none, some (.iconst (-1), 1), some (.ireturn, 1)], [some (.iload_n 0, 1), some (.bipush 100, 2), none, some (.idiv, 1), some (.bipush 25, 2), none, some (.imul, 1), some (.iload_n 0, 1), some (.bipush 10, 2), none, some (.idiv, 1), some (.bipush 10, 2), none, some (.irem, 1), some (.iconst 5, 1), some (.imul, 1)], [some (.iadd, 1), some (.iload_n 0, 1), some (.bipush 10, 2), none, some (.irem, 1), some (.iadd, 1), some (.ireturn, 1)]]
def s_cd3 : sCode := [[some (.iload_n 0, 1), some (.iconst 0, 1), some (.invokestatic 34, 3), none, none, some (.bipush 100, 2), none, some (.imul, 1), some (.iload_n 0, 1), some (.iconst 1, 1), some (.invokestatic 34, 3), none, none, some (.bipush 10, 2), none, some (.imul, 1)], [some (.iadd, 1), some (.iload_n 0, 1), some (.iconst 2, 1), some (.invokestatic 34, 3), none, none, some (.iadd, 1), some (.ireturn, 1)]]
def s_cd4 : sCode := [[some (.iload_n 1, 1), some (.ifCond .ne 8, 3), none, none, some (.iload_n 0, 1), some (.bipush 25, 2), none, some (.idiv, 1), some (.ireturn, 1), some (.iload_n 1, 1), some (.iconst 1, 1), some (.if_icmp .ne 11, 3), none, none, some (.iload_n 0, 1), some (.iconst 5, 1)], [some (.idiv, 1), some (.iconst 5, 1), some (.irem, 1), some (.goto 6, 3), none, none, some (.iload_n 0, 1), some (.iconst 5, 1), some (.irem, 1), some (.ireturn, 1)]]
def s_cd5 : sCode := [[some (.aload_n 0, 1), some (.lconst 0, 1), some (.putfield 0, 3), none, none, some (.aload_n 0, 1), some (.lconst 0, 1), some (.putfield 1, 3), none, none, some (.return_, 1)]]
def s_cd6 : sCode := [[some (.aload_n 0, 1), some (.ldc2_w 18446744073709551615, 3), none, none, some (.putfield 0, 3), none, none, some (.aload_n 0, 1), some (.ldc2_w 2305843009213693951, 3), none, none, some (.putfield 1, 3), none, none, some (.return_, 1)]]
def s_cd7 : sCode := [[some (.iload_n 1, 1), some (.ifCond .lt 24, 3), none, none, some (.iload_n 1, 1), some (.bipush 64, 2), none, some (.if_icmp .ge 18, 3), none, none, some (.aload_n 0, 1), some (.dup, 1), some (.getfield 0, 3), none, none, some (.lconst 1, 1)], [some (.iload_n 1, 1), some (.lshl, 1), some (.lor, 1), some (.putfield 0, 3), none, none, some (.goto 30, 3), none, none, some (.iload_n 1, 1), some (.bipush 64, 2), none, some (.if_icmp .lt 24, 3), none, none, some (.iload_n 1, 1)], [some (.bipush 125, 2), none, some (.if_icmp .ge 18, 3), none, none, some (.aload_n 0, 1), some (.dup, 1), some (.getfield 1, 3), none, none, some (.lconst 1, 1), some (.iload_n 1, 1), some (.bipush 64, 2), none, some (.isub, 1), some (.lshl, 1)], [some (.lor, 1), some (.putfield 1, 3), none, none, some (.return_, 1)]]
def s_cd8 : sCode := [[some (.iload_n 1, 1), some (.ifCond .lt 9, 3), none, none, some (.iload_n 1, 1), some (.bipush 125, 2), none, some (.if_icmp .lt 5, 3), none, none, some (.iconst 0, 1), some (.ireturn, 1), some (.iload_n 1, 1), some (.bipush 64, 2), none, some (.if_icmp .ge 14, 3)], [none, none, some (.aload_n 0, 1), some (.getfield 0, 3), none, none, some (.iload_n 1, 1), some (.lushr, 1), some (.lconst 1, 1), some (.land, 1), some (.goto 14, 3), none, none, some (.aload_n 0, 1), some (.getfield 1, 3), none], [none, some (.iload_n 1, 1), some (.bipush 64, 2), none, some (.isub, 1), some (.lushr, 1), some (.lconst 1, 1), some (.land, 1), some (.lconst 0, 1), some (.lcmp, 1), some (.ifCond .eq 7, 3), none, none, some (.iconst 1, 1), some (.goto 4, 3), none], [none, some (.iconst 0, 1), some (.ireturn, 1)]]
def s_cd9 : sCode := [[some (.aload_n 0, 1), some (.aload_n 1, 1), some (.getfield 0, 3), none, none, some (.aload_n 2, 1), some (.getfield 0, 3), none, none, some (.land, 1), some (.putfield 0, 3), none, none, some (.aload_n 0, 1), some (.aload_n 1, 1), some (.getfield 1, 3)], [none, none, some (.aload_n 2, 1), some (.getfield 1, 3), none, none, some (.land, 1), some (.putfield 1, 3), none, none, some (.return_, 1)]]
def s_cd10 : sCode := [[some (.aload_n 0, 1), some (.getfield 0, 3), none, none, some (.invokestatic 2321, 3), none, none, some (.aload_n 0, 1), some (.getfield 1, 3), none, none, some (.invokestatic 2321, 3), none, none, some (.iadd, 1), some (.ireturn, 1)]]
def s_cd11 : sCode := [[some (.iconst 0, 1), some (.istore_n 1, 1), some (.iload_n 1, 1), some (.bipush 125, 2), none, some (.if_icmp .ge 22, 3), none, none, some (.aload_n 0, 1), some (.iload_n 1, 1), some (.invokevirtual 65, 3), none, none, some (.ifCond .eq 8, 3), none, none], [some (.iload_n 1, 1), some (.invokestatic 25, 3), none, none, some (.ireturn, 1), some (.iinc 1 1, 3), none, none, some (.goto (-22), 3), none, none, some (.bipush (-2), 2), none, some (.ireturn, 1)]]
def s_cd12 : sCode := [[some (.aload_n 0, 1), some (.invokespecial 0, 3), none, none, some (.aload_n 0, 1), some (.iconst 0, 1), some (.putfield 64, 3), none, none, some (.aload_n 0, 1), some (.iconst 0, 1), some (.putfield 65, 3), none, none, some (.aload_n 0, 1), some (.bipush 40, 2)], [none, some (.newarray .int, 2), none, some (.putstatic 66, 3), none, none, some (.aload_n 0, 1), some (.bipush 40, 2), none, some (.newarray .int, 2), none, some (.putstatic 67, 3), none, none, some (.aload_n 0, 1), some (.bipush 40, 2)], [none, some (.newarray .int, 2), none, some (.putstatic 68, 3), none, none, some (.aload_n 0, 1), some (.bipush 40, 2), none, some (.newarray .int, 2), none, some (.putstatic 69, 3), none, none, some (.return_, 1)]]
def s_cd13 : sCode := [[some (.aload_n 0, 1), some (.getfield 64, 3), none, none, some (.bipush 40, 2), none, some (.if_icmp .lt 7, 3), none, none, some (.aload_n 0, 1), some (.invokevirtual 112, 3), none, none, some (.aload_n 0, 1), some (.getfield 64, 3), none], [none, some (.ifCond .lt 12, 3), none, none, some (.aload_n 0, 1), some (.getfield 64, 3), none, none, some (.bipush 40, 2), none, some (.if_icmp .lt 4, 3), none, none, some (.return_, 1), some (.aload_n 0, 1), some (.getfield 66, 3)], [none, none, some (.aload_n 0, 1), some (.getfield 64, 3), none, none, some (.iload_n 1, 1), some (.iastore, 1), some (.aload_n 0, 1), some (.getfield 67, 3), none, none, some (.aload_n 0, 1), some (.getfield 64, 3), none, none], [some (.iload_n 2, 1), some (.iastore, 1), some (.aload_n 0, 1), some (.getfield 68, 3), none, none, some (.aload_n 0, 1), some (.getfield 64, 3), none, none, some (.iload_n 3, 1), some (.iastore, 1), some (.aload_n 0, 1), some (.getfield 69, 3), none, none], [some (.aload_n 0, 1), some (.getfield 64, 3), none, none, some (.iload 4, 2), none, some (.iastore, 1), some (.aload_n 0, 1), some (.dup, 1), some (.getfield 64, 3), none, none, some (.iconst 1, 1), some (.iadd, 1), some (.putfield 64, 3), none], [none, some (.aload_n 0, 1), some (.aload_n 0, 1), some (.getfield 64, 3), none, none, some (.putfield 65, 3), none, none, some (.return_, 1)]]
def s_cd14 : sCode := [[some (.aload_n 0, 1), some (.getfield 66, 3), none, none, some (.iconst 1, 1), some (.aload_n 0, 1), some (.getfield 66, 3), none, none, some (.iconst 0, 1), some (.bipush 39, 2), none, some (.invokedynamic 0, 3), none, none, some (.aload_n 0, 1)], [some (.getfield 67, 3), none, none, some (.iconst 1, 1), some (.aload_n 0, 1), some (.getfield 67, 3), none, none, some (.iconst 0, 1), some (.bipush 39, 2), none, some (.invokedynamic 0, 3), none, none, some (.aload_n 0, 1), some (.getfield 68, 3)], [none, none, some (.iconst 1, 1), some (.aload_n 0, 1), some (.getfield 68, 3), none, none, some (.iconst 0, 1), some (.bipush 39, 2), none, some (.invokedynamic 0, 3), none, none, some (.aload_n 0, 1), some (.getfield 69, 3), none], [none, some (.iconst 1, 1), some (.aload_n 0, 1), some (.getfield 69, 3), none, none, some (.iconst 0, 1), some (.bipush 39, 2), none, some (.invokedynamic 0, 3), none, none, some (.aload_n 0, 1), some (.bipush 39, 2), none, some (.putfield 64, 3)], [none, none, some (.return_, 1)]]
def s_cd15 : sCode := [[some (.aload_n 0, 1), some (.iconst 0, 1), some (.putfield 64, 3), none, none, some (.aload_n 0, 1), some (.iconst 0, 1), some (.putfield 65, 3), none, none, some (.return_, 1)]]
def s_cd16 : sCode := [[some (.aload_n 0, 1), some (.getfield 64, 3), none, none, some (.iconst 1, 1), some (.isub, 1), some (.ireturn, 1)]]
def s_cd17 : sCode := [[some (.aload_n 0, 1), some (.getfield 64, 3), none, none, some (.aload_n 0, 1), some (.getfield 65, 3), none, none, some (.if_icmp .ge 10, 3), none, none, some (.aload_n 0, 1), some (.getfield 64, 3), none, none, some (.goto 4, 3)], [none, none, some (.iconst (-1), 1), some (.ireturn, 1)]]
def s_cd18 : sCode := [[some (.aload_n 0, 1), some (.dup, 1), some (.getfield 64, 3), none, none, some (.iconst 1, 1), some (.isub, 1), some (.putfield 64, 3), none, none, some (.aload_n 0, 1), some (.getfield 64, 3), none, none, some (.ireturn, 1)]]
def s_cd19 : sCode := [[some (.aload_n 0, 1), some (.dup, 1), some (.getfield 64, 3), none, none, some (.iconst 1, 1), some (.iadd, 1), some (.putfield 64, 3), none, none, some (.aload_n 0, 1), some (.getfield 65, 3), none, none, some (.aload_n 0, 1), some (.getfield 64, 3)], [none, none, some (.isub, 1), some (.ireturn, 1)]]
def s_cd20 : sCode := [[some (.iload_n 1, 1), some (.ifCond .lt 18, 3), none, none, some (.iload_n 1, 1), some (.bipush 40, 2), none, some (.if_icmp .ge 12, 3), none, none, some (.aload_n 0, 1), some (.getfield 66, 3), none, none, some (.iload_n 1, 1), some (.iaload, 1)], [some (.goto 4, 3), none, none, some (.iconst 0, 1), some (.ireturn, 1)]]
def s_cd21 : sCode := [[some (.iload_n 1, 1), some (.ifCond .lt 18, 3), none, none, some (.iload_n 1, 1), some (.bipush 40, 2), none, some (.if_icmp .ge 12, 3), none, none, some (.aload_n 0, 1), some (.getfield 67, 3), none, none, some (.iload_n 1, 1), some (.iaload, 1)], [some (.goto 4, 3), none, none, some (.iconst 0, 1), some (.ireturn, 1)]]
def s_cd22 : sCode := [[some (.iload_n 1, 1), some (.ifCond .lt 18, 3), none, none, some (.iload_n 1, 1), some (.bipush 40, 2), none, some (.if_icmp .ge 12, 3), none, none, some (.aload_n 0, 1), some (.getfield 68, 3), none, none, some (.iload_n 1, 1), some (.iaload, 1)], [some (.goto 4, 3), none, none, some (.iconst 0, 1), some (.ireturn, 1)]]
def s_cd23 : sCode := [[some (.iload_n 1, 1), some (.ifCond .lt 18, 3), none, none, some (.iload_n 1, 1), some (.bipush 40, 2), none, some (.if_icmp .ge 12, 3), none, none, some (.aload_n 0, 1), some (.getfield 69, 3), none, none, some (.iload_n 1, 1), some (.iaload, 1)], [some (.goto 4, 3), none, none, some (.iconst 0, 1), some (.ireturn, 1)]]
def s_cd24 : sCode := [[some (.aload_n 0, 1), some (.invokespecial 0, 3), none, none, some (.aload_n 0, 1), some (.iconst 0, 1), some (.putfield 128, 3), none, none, some (.aload_n 0, 1), some (.iconst 0, 1), some (.putfield 129, 3), none, none, some (.aload_n 0, 1), some (.bipush 50, 2)], [none, some (.newarray .int, 2), none, some (.putstatic 130, 3), none, none, some (.aload_n 0, 1), some (.bipush 24, 2), none, some (.newarray .int, 2), none, some (.putstatic 131, 3), none, none, some (.return_, 1)]]
def s_cd25 : sCode := [[some (.iload_n 0, 1), some (.ifCond .lt 13, 3), none, none, some (.iload_n 0, 1), some (.bipush 8, 2), none, some (.if_icmp .ge 7, 3), none, none, some (.iconst 1, 1), some (.goto 4, 3), none, none, some (.iconst 0, 1), some (.ireturn, 1)]]
def s_cd26 : sCode := [[some (.iload_n 0, 1), some (.ifCond .lt 19, 3), none, none, some (.iload_n 0, 1), some (.getstatic 0, 3), none, none, some (.arraylength, 1), some (.if_icmp .ge 11, 3), none, none, some (.getstatic 0, 3), none, none, some (.iload_n 0, 1)], [some (.iaload, 1), some (.goto 4, 3), none, none, some (.iconst (-1), 1), some (.ireturn, 1)]]
def s_cd27 : sCode := [[some (.iload_n 0, 1), some (.istore_n 2, 1), some (.iconst 0, 1), some (.istore_n 3, 1), some (.iload_n 3, 1), some (.bipush 8, 2), none, some (.if_icmp .ge 25, 3), none, none, some (.iload_n 2, 1), some (.ifCond .lt 21, 3), none, none, some (.iload_n 2, 1), some (.iload_n 1, 1)], [some (.if_icmp .ne 5, 3), none, none, some (.iconst 1, 1), some (.ireturn, 1), some (.iload_n 2, 1), some (.invokestatic 209, 3), none, none, some (.istore_n 2, 1), some (.iinc 3 1, 3), none, none, some (.goto (-25), 3), none, none], [some (.iconst 0, 1), some (.ireturn, 1)]]
def s_cd28 : sCode := [[some (.aload_n 0, 1), some (.getfield 128, 3), none, none, some (.ifCond .lt 15, 3), none, none, some (.aload_n 0, 1), some (.getfield 128, 3), none, none, some (.aload_n 0, 1), some (.getfield 130, 3), none, none, some (.arraylength, 1)], [some (.if_icmp .lt 5, 3), none, none, some (.iconst (-1), 1), some (.ireturn, 1), some (.aload_n 0, 1), some (.getfield 130, 3), none, none, some (.aload_n 0, 1), some (.getfield 128, 3), none, none, some (.iload_n 1, 1), some (.iastore, 1), some (.aload_n 0, 1)], [some (.dup, 1), some (.getfield 128, 3), none, none, some (.iconst 1, 1), some (.iadd, 1), some (.putfield 128, 3), none, none, some (.aload_n 0, 1), some (.getfield 128, 3), none, none, some (.iconst 1, 1), some (.isub, 1), some (.ireturn, 1)]]
def s_cd29 : sCode := [[some (.iload_n 1, 1), some (.ifCond .lt 15, 3), none, none, some (.iload_n 1, 1), some (.aload_n 0, 1), some (.getfield 128, 3), none, none, some (.if_icmp .ge 7, 3), none, none, some (.iconst 1, 1), some (.goto 4, 3), none, none], [some (.iconst 0, 1), some (.ireturn, 1)]]
def s_cd30 : sCode := [[some (.iload_n 1, 1), some (.ifCond .lt 21, 3), none, none, some (.iload_n 1, 1), some (.aload_n 0, 1), some (.getfield 130, 3), none, none, some (.arraylength, 1), some (.if_icmp .ge 12, 3), none, none, some (.aload_n 0, 1), some (.getfield 130, 3), none], [none, some (.iload_n 1, 1), some (.iaload, 1), some (.goto 4, 3), none, none, some (.iconst (-1), 1), some (.ireturn, 1)]]
def s_cd31 : sCode := [[some (.iload_n 1, 1), some (.ifCond .lt 29, 3), none, none, some (.iload_n 1, 1), some (.aload_n 0, 1), some (.getfield 129, 3), none, none, some (.if_icmp .ge 21, 3), none, none, some (.iload_n 1, 1), some (.aload_n 0, 1), some (.getfield 131, 3), none], [none, some (.arraylength, 1), some (.if_icmp .ge 12, 3), none, none, some (.aload_n 0, 1), some (.getfield 131, 3), none, none, some (.iload_n 1, 1), some (.iaload, 1), some (.goto 4, 3), none, none, some (.iconst (-1), 1), some (.ireturn, 1)]]
def s_cd32 : sCode := [[some (.aload_n 0, 1), some (.iconst 0, 1), some (.putfield 129, 3), none, none, some (.aload_n 0, 1), some (.iload_n 1, 1), some (.invokevirtual 233, 3), none, none, some (.ifCond .eq 12, 3), none, none, some (.iload_n 2, 1), some (.ifCond .lt 8, 3), none], [none, some (.iload_n 2, 1), some (.iconst 4, 1), some (.if_icmp .lt 5, 3), none, none, some (.iconst 0, 1), some (.ireturn, 1), some (.aload_n 0, 1), some (.iload_n 1, 1), some (.iload_n 2, 1), some (.iload_n 3, 1), some (.iconst 0, 1), some (.invokevirtual 284, 3), none, none], [some (.ireturn, 1)]]
def s_cd33 : sCode := [[some (.aload_n 0, 1), some (.getfield 129, 3), none, none, some (.ifCond .lt 25, 3), none, none, some (.aload_n 0, 1), some (.getfield 129, 3), none, none, some (.aload_n 0, 1), some (.getfield 131, 3), none, none, some (.arraylength, 1)], [some (.if_icmp .ge 13, 3), none, none, some (.aload_n 0, 1), some (.getfield 131, 3), none, none, some (.aload_n 0, 1), some (.getfield 129, 3), none, none, some (.iload_n 1, 1), some (.iastore, 1), some (.aload_n 0, 1), some (.dup, 1), some (.getfield 129, 3)], [none, none, some (.iconst 1, 1), some (.iadd, 1), some (.putfield 129, 3), none, none, some (.return_, 1)]]
def s_cd34 : sCode := [[some (.iload_n 0, 1), some (.iconst 4, 1), some (.imul, 1), some (.iload_n 1, 1), some (.iadd, 1), some (.istore_n 2, 1), some (.iload_n 0, 1), some (.ifCond .lt 28, 3), none, none, some (.iload_n 1, 1), some (.ifCond .lt 24, 3), none, none, some (.iload_n 1, 1), some (.iconst 4, 1)], [some (.if_icmp .ge 19, 3), none, none, some (.iload_n 2, 1), some (.getstatic 1, 3), none, none, some (.arraylength, 1), some (.if_icmp .ge 11, 3), none, none, some (.getstatic 1, 3), none, none, some (.iload_n 2, 1), some (.iaload, 1)], [some (.goto 4, 3), none, none, some (.iconst 0, 1), some (.ireturn, 1)]]
def s_cd35 : sCode := [[some (.aload_n 0, 1), some (.aload_n 0, 1), some (.iload_n 1, 1), some (.invokevirtual 241, 3), none, none, some (.iload_n 1, 1), some (.iload_n 2, 1), some (.iload_n 3, 1), some (.iload 4, 2), none, some (.invokevirtual 293, 3), none, none, some (.ireturn, 1)]]
def s_cd36 : sCode := [[some (.iload_n 1, 1), some (.istore 6, 2), none, some (.iconst 0, 1), some (.istore 7, 2), none, some (.iload 7, 2), none, some (.bipush 8, 2), none, some (.if_icmp .ge 30, 3), none, none, some (.iload 6, 2), none, some (.ifCond .lt 25, 3)], [none, none, some (.iload 6, 2), none, some (.iload_n 3, 1), some (.invokestatic 274, 3), none, none, some (.ifCond .ne 16, 3), none, none, some (.iload 6, 2), none, some (.invokestatic 209, 3), none, none], [some (.istore 6, 2), none, some (.iinc 7 1, 3), none, none, some (.goto (-31), 3), none, none, some (.iload 6, 2), none, some (.ifCond .lt 10, 3), none, none, some (.iload 5, 2), none, some (.bipush 40, 2)], [none, some (.if_icmp .le 5, 3), none, none, some (.iconst 0, 1), some (.ireturn, 1), some (.iload 6, 2), none, some (.iload_n 3, 1), some (.invokestatic 274, 3), none, none, some (.istore 7, 2), none, some (.aload_n 0, 1), some (.iload 7, 2)], [none, some (.invokevirtual 265, 3), none, none, some (.iload 6, 2), none, some (.ifCond .ne 17, 3), none, none, some (.aload_n 0, 1), some (.iload 7, 2), none, some (.iload_n 2, 1), some (.iload 4, 2), none, some (.iload 5, 2)], [none, some (.iconst 1, 1), some (.iadd, 1), some (.invokevirtual 300, 3), none, none, some (.ireturn, 1), some (.aload_n 0, 1), some (.iload 6, 2), none, some (.invokestatic 209, 3), none, none, some (.iload_n 2, 1), some (.iload_n 3, 1), some (.iload 7, 2)], [none, some (.bipush 41, 2), none, some (.if_icmp .ne 10, 3), none, none, some (.iload 4, 2), none, some (.iconst 1, 1), some (.iadd, 1), some (.goto 5, 3), none, none, some (.iload 4, 2), none, some (.iload 5, 2)], [none, some (.iconst 1, 1), some (.iadd, 1), some (.invokevirtual 293, 3), none, none, some (.istore 8, 2), none, some (.aload_n 0, 1), some (.iload 7, 2), none, some (.iload 8, 2), none, some (.iload_n 2, 1), some (.iload 5, 2), none], [some (.iconst 1, 1), some (.iadd, 1), some (.invokevirtual 308, 3), none, none, some (.ireturn, 1)]]
def s_cd37 : sCode := [[some (.iload_n 1, 1), some (.lookupswitch 83 #[(1, 43), (2, 47), (10, 67), (11, 79)], 43), none, none, none, none, none, none, none, none, none, none, none, none, none, none], [none, none, none, none, none, none, none, none, none, none, none, none, none, none, none, none], [none, none, none, none, none, none, none, none, none, none, none, none, some (.iload_n 3, 1), some (.iload_n 2, 1), some (.iadd, 1), some (.ireturn, 1)], [some (.aload_n 0, 1), some (.iload_n 2, 1), some (.iconst 1, 1), some (.iload_n 3, 1), some (.iload 4, 2), none, some (.invokevirtual 284, 3), none, none, some (.aload_n 0, 1), some (.iload_n 2, 1), some (.iconst 2, 1), some (.iconst 1, 1), some (.iload 4, 2), none, some (.invokevirtual 284, 3)], [none, none, some (.isub, 1), some (.ireturn, 1), some (.aload_n 0, 1), some (.iload_n 2, 1), some (.iconst 0, 1), some (.iload_n 3, 1), some (.iload 4, 2), none, some (.invokevirtual 284, 3), none, none, some (.iconst 2, 1), some (.imul, 1), some (.ireturn, 1)], [some (.iload_n 3, 1), some (.iload_n 2, 1), some (.ixor, 1), some (.ireturn, 1), some (.iconst 0, 1), some (.ireturn, 1)]]
def s_cd38 : sCode := [[some (.iload_n 1, 1), some (.lookupswitch 144 #[(20, 91), (30, 95), (40, 98), (41, 102), (50, 104), (60, 108), (61, 120), (70, 124), (80, 128), (81, 140)], 91), none, none, none, none, none, none, none, none, none, none, none, none, none, none], [none, none, none, none, none, none, none, none, none, none, none, none, none, none, none, none], [none, none, none, none, none, none, none, none, none, none, none, none, none, none, none, none], [none, none, none, none, none, none, none, none, none, none, none, none, none, none, none, none], [none, none, none, none, none, none, none, none, none, none, none, none, none, none, none, none], [none, none, none, none, none, none, none, none, none, none, none, none, some (.iload_n 2, 1), some (.iconst 3, 1), some (.iadd, 1), some (.ireturn, 1)], [some (.iload_n 2, 1), some (.ineg, 1), some (.ireturn, 1), some (.iload_n 2, 1), some (.iconst 3, 1), some (.imul, 1), some (.ireturn, 1), some (.iload_n 2, 1), some (.ireturn, 1), some (.iload_n 2, 1), some (.iconst 5, 1), some (.ixor, 1), some (.ireturn, 1), some (.iload_n 2, 1), some (.aload_n 0, 1), some (.iload_n 3, 1)], [some (.iconst 0, 1), some (.iconst 2, 1), some (.iload 4, 2), none, some (.invokevirtual 284, 3), none, none, some (.isub, 1), some (.ireturn, 1), some (.iload_n 2, 1), some (.iconst 1, 1), some (.iadd, 1), some (.ireturn, 1), some (.iload_n 2, 1), some (.iconst 2, 1), some (.imul, 1)], [some (.ireturn, 1), some (.iload_n 2, 1), some (.aload_n 0, 1), some (.iload_n 3, 1), some (.iconst 2, 1), some (.iconst 2, 1), some (.iload 4, 2), none, some (.invokevirtual 284, 3), none, none, some (.iadd, 1), some (.ireturn, 1), some (.iload_n 2, 1), some (.iconst 1, 1), some (.isub, 1)], [some (.ireturn, 1), some (.iconst 0, 1), some (.ireturn, 1)]]
def s_cd39 : sCode := [[some (.aload_n 0, 1), some (.invokespecial 0, 3), none, none, some (.aload_n 0, 1), some (.new 9, 3), none, none, some (.dup, 1), some (.invokespecial 1008, 3), none, none, some (.putstatic 192, 3), none, none, some (.aload_n 0, 1)], [some (.iconst 0, 1), some (.putfield 193, 3), none, none, some (.aload_n 0, 1), some (.iconst 0, 1), some (.putfield 194, 3), none, none, some (.aload_n 0, 1), some (.bipush 99, 2), none, some (.putfield 195, 3), none, none, some (.aload_n 0, 1)], [some (.iconst 0, 1), some (.putfield 196, 3), none, none, some (.aload_n 0, 1), some (.bipush 10, 2), none, some (.anewarray 18, 3), none, none, some (.putstatic 197, 3), none, none, some (.aload_n 0, 1), some (.new 4, 3), none], [none, some (.dup, 1), some (.bipush 10, 2), none, some (.invokespecial 481, 3), none, none, some (.putstatic 198, 3), none, none, some (.aload_n 0, 1), some (.bipush 10, 2), none, some (.newarray .int, 2), none, some (.putstatic 199, 3)], [none, none, some (.aload_n 0, 1), some (.bipush 6, 2), none, some (.newarray .int, 2), none, some (.putstatic 200, 3), none, none, some (.aload_n 0, 1), some (.bipush 125, 2), none, some (.newarray .int, 2), none, some (.putstatic 201, 3)], [none, none, some (.iconst 0, 1), some (.istore_n 1, 1), some (.iload_n 1, 1), some (.aload_n 0, 1), some (.getfield 197, 3), none, none, some (.arraylength, 1), some (.if_icmp .ge 23, 3), none, none, some (.aload_n 0, 1), some (.getfield 197, 3), none], [none, some (.iload_n 1, 1), some (.new 4, 3), none, none, some (.dup, 1), some (.iload_n 1, 1), some (.invokespecial 481, 3), none, none, some (.aastore, 1), some (.iinc 1 1, 3), none, none, some (.goto (-26), 3), none], [none, some (.return_, 1)]]
def s_cd40 : sCode := [[some (.iload_n 1, 1), some (.ifCond .lt 15, 3), none, none, some (.iload_n 1, 1), some (.aload_n 0, 1), some (.getfield 193, 3), none, none, some (.if_icmp .ge 7, 3), none, none, some (.iconst 1, 1), some (.goto 4, 3), none, none], [some (.iconst 0, 1), some (.ireturn, 1)]]
def s_cd41 : sCode := [[some (.iload_n 1, 1), some (.ifCond .lt 21, 3), none, none, some (.iload_n 1, 1), some (.aload_n 0, 1), some (.getfield 197, 3), none, none, some (.arraylength, 1), some (.if_icmp .ge 12, 3), none, none, some (.aload_n 0, 1), some (.getfield 197, 3), none], [none, some (.iload_n 1, 1), some (.aaload, 1), some (.ifnonnull 8, 3), none, none, some (.aload_n 0, 1), some (.getfield 198, 3), none, none, some (.areturn, 1), some (.aload_n 0, 1), some (.getfield 197, 3), none, none, some (.iload_n 1, 1)], [some (.aaload, 1), some (.areturn, 1)]]
def s_cd42 : sCode := [[some (.iconst 1, 1), some (.aload_n 0, 1), some (.getfield 193, 3), none, none, some (.ishl, 1), some (.iconst 1, 1), some (.isub, 1), some (.ireturn, 1)]]
def s_cd43 : sCode := [[some (.aload_n 0, 1), some (.getfield 193, 3), none, none, some (.bipush 10, 2), none, some (.if_icmp .lt 5, 3), none, none, some (.iconst (-1), 1), some (.ireturn, 1), some (.aload_n 0, 1), some (.aload_n 0, 1), some (.getfield 193, 3), none, none], [some (.invokevirtual 329, 3), none, none, some (.astore 5, 2), none, some (.aload 5, 2), none, some (.iload_n 1, 1), some (.putfield 257, 3), none, none, some (.aload 5, 2), none, some (.iload_n 2, 1), some (.putfield 258, 3), none], [none, some (.aload 5, 2), none, some (.iload_n 3, 1), some (.putfield 259, 3), none, none, some (.aload 5, 2), none, some (.getfield 260, 3), none, none, some (.aload 4, 2), none, some (.invokevirtual 833, 3), none], [none, some (.aload_n 0, 1), some (.dup, 1), some (.getfield 193, 3), none, none, some (.iconst 1, 1), some (.iadd, 1), some (.putfield 193, 3), none, none, some (.aload 5, 2), none, some (.getfield 256, 3), none, none], [some (.ireturn, 1)]]
def s_cd44 : sCode := [[some (.aload_n 0, 1), some (.iload_n 1, 1), some (.invokevirtual 329, 3), none, none, some (.astore_n 3, 1), some (.iload_n 2, 1), some (.tableswitch 49 0 3 #[29, 34, 39, 44], 29), none, none, none, none, none, none, none, none], [none, none, none, none, none, none, none, none, none, none, none, none, none, none, none, none], [none, none, none, none, some (.aload_n 3, 1), some (.getfield 257, 3), none, none, some (.ireturn, 1), some (.aload_n 3, 1), some (.getfield 258, 3), none, none, some (.ireturn, 1), some (.aload_n 3, 1), some (.getfield 259, 3)], [none, none, some (.ireturn, 1), some (.aload_n 0, 1), some (.getfield 194, 3), none, none, some (.ireturn, 1), some (.aload_n 0, 1), some (.getfield 195, 3), none, none, some (.ireturn, 1)]]
def s_cd45 : sCode := [[some (.aload_n 0, 1), some (.iload_n 1, 1), some (.invokevirtual 329, 3), none, none, some (.astore 4, 2), none, some (.iload_n 2, 1), some (.tableswitch 67 0 3 #[32, 41, 50, 59], 32), none, none, none, none, none, none, none], [none, none, none, none, none, none, none, none, none, none, none, none, none, none, none, none], [none, none, none, none, none, none, none, none, some (.aload 4, 2), none, some (.iload_n 3, 1), some (.putfield 257, 3), none, none, some (.goto 34, 3), none], [none, some (.aload 4, 2), none, some (.iload_n 3, 1), some (.putfield 258, 3), none, none, some (.goto 25, 3), none, none, some (.aload 4, 2), none, some (.iload_n 3, 1), some (.putfield 259, 3), none, none], [some (.goto 16, 3), none, none, some (.aload_n 0, 1), some (.iload_n 3, 1), some (.putfield 194, 3), none, none, some (.goto 8, 3), none, none, some (.aload_n 0, 1), some (.iload_n 3, 1), some (.putfield 195, 3), none, none], [some (.return_, 1)]]
def s_cd46 : sCode := [[some (.aload_n 0, 1), some (.iload_n 1, 1), some (.invokevirtual 321, 3), none, none, some (.ifCond .eq 22, 3), none, none, some (.aload_n 0, 1), some (.iload_n 1, 1), some (.invokevirtual 329, 3), none, none, some (.getfield 257, 3), none, none], [some (.aload_n 0, 1), some (.getfield 195, 3), none, none, some (.if_icmp .gt 7, 3), none, none, some (.iconst 1, 1), some (.goto 4, 3), none, none, some (.iconst 0, 1), some (.ireturn, 1)]]
def s_cd47 : sCode := [[some (.iconst 0, 1), some (.istore_n 1, 1), some (.iconst 0, 1), some (.istore_n 2, 1), some (.iload_n 2, 1), some (.aload_n 0, 1), some (.getfield 193, 3), none, none, some (.if_icmp .ge 23, 3), none, none, some (.aload_n 0, 1), some (.iload_n 2, 1), some (.invokevirtual 369, 3), none], [none, some (.ifCond .eq 9, 3), none, none, some (.iload_n 1, 1), some (.iconst 1, 1), some (.iload_n 2, 1), some (.ishl, 1), some (.ior, 1), some (.istore_n 1, 1), some (.iinc 2 1, 3), none, none, some (.goto (-25), 3), none, none], [some (.iload_n 1, 1), some (.ireturn, 1)]]
def s_cd48 : sCode := [[some (.iconst 0, 1), some (.istore_n 1, 1), some (.iload_n 1, 1), some (.aload_n 0, 1), some (.getfield 193, 3), none, none, some (.if_icmp .ge 29, 3), none, none, some (.aload_n 0, 1), some (.iload_n 1, 1), some (.invokevirtual 329, 3), none, none, some (.aload_n 0, 1)], [some (.getfield 192, 3), none, none, some (.aload_n 0, 1), some (.getfield 195, 3), none, none, some (.aload_n 0, 1), some (.getfield 200, 3), none, none, some (.invokevirtual 515, 3), none, none, some (.iinc 1 1, 3), none], [none, some (.goto (-31), 3), none, none, some (.aload_n 0, 1), some (.invokevirtual 392, 3), none, none, some (.aload_n 0, 1), some (.iconst 0, 1), some (.invokevirtual 401, 3), none, none, some (.return_, 1)]]
def s_cd49 : sCode := [[some (.iconst 0, 1), some (.istore_n 1, 1), some (.iload_n 1, 1), some (.aload_n 0, 1), some (.getfield 193, 3), none, none, some (.if_icmp .ge 74, 3), none, none, some (.iload_n 1, 1), some (.aload_n 0, 1), some (.getfield 199, 3), none, none, some (.arraylength, 1)], [some (.if_icmp .ge 65, 3), none, none, some (.iload_n 1, 1), some (.istore_n 2, 1), some (.iload_n 2, 1), some (.ifCond .le 46, 3), none, none, some (.aload_n 0, 1), some (.iload_n 1, 1), some (.invokevirtual 329, 3), none, none, some (.aload_n 0, 1), some (.aload_n 0, 1)], [some (.getfield 199, 3), none, none, some (.iload_n 2, 1), some (.iconst 1, 1), some (.isub, 1), some (.iaload, 1), some (.invokevirtual 329, 3), none, none, some (.invokevirtual 489, 3), none, none, some (.ifCond .eq 23, 3), none, none], [some (.aload_n 0, 1), some (.getfield 199, 3), none, none, some (.iload_n 2, 1), some (.aload_n 0, 1), some (.getfield 199, 3), none, none, some (.iload_n 2, 1), some (.iconst 1, 1), some (.isub, 1), some (.iaload, 1), some (.iastore, 1), some (.iinc 2 (-1), 3), none], [none, some (.goto (-44), 3), none, none, some (.aload_n 0, 1), some (.getfield 199, 3), none, none, some (.iload_n 2, 1), some (.iload_n 1, 1), some (.iastore, 1), some (.iinc 1 1, 3), none, none, some (.goto (-76), 3), none], [none, some (.return_, 1)]]
def s_cd50 : sCode := [[some (.aload_n 0, 1), some (.invokevirtual 376, 3), none, none, some (.iload_n 1, 1), some (.iconst (-1), 1), some (.ixor, 1), some (.iand, 1), some (.istore_n 2, 1), some (.iconst 0, 1), some (.istore_n 3, 1), some (.aload_n 0, 1), some (.iconst 0, 1), some (.putfield 196, 3), none, none], [some (.iconst 0, 1), some (.istore 4, 2), none, some (.iload 4, 2), none, some (.aload_n 0, 1), some (.getfield 193, 3), none, none, some (.if_icmp .ge 87, 3), none, none, some (.iload 4, 2), none, some (.aload_n 0, 1), some (.getfield 199, 3)], [none, none, some (.arraylength, 1), some (.if_icmp .ge 77, 3), none, none, some (.iconst 1, 1), some (.aload_n 0, 1), some (.getfield 199, 3), none, none, some (.iload 4, 2), none, some (.iaload, 1), some (.ishl, 1), some (.istore 5, 2)], [none, some (.iload_n 2, 1), some (.iload 5, 2), none, some (.iand, 1), some (.ifCond .eq 53, 3), none, none, some (.iload_n 3, 1), some (.iload 5, 2), none, some (.iand, 1), some (.ifCond .ne 46, 3), none, none, some (.aload_n 0, 1)], [some (.dup, 1), some (.getfield 196, 3), none, none, some (.iload 5, 2), none, some (.ior, 1), some (.putfield 196, 3), none, none, some (.aload_n 0, 1), some (.aload_n 0, 1), some (.getfield 199, 3), none, none, some (.iload 4, 2)], [none, some (.iaload, 1), some (.invokevirtual 329, 3), none, none, some (.getfield 259, 3), none, none, some (.istore 6, 2), none, some (.iload_n 3, 1), some (.iload 6, 2), none, some (.ifCond .ge 7, 3), none, none], [some (.iconst 0, 1), some (.goto 7, 3), none, none, some (.iconst 1, 1), some (.iload 6, 2), none, some (.ishl, 1), some (.ior, 1), some (.istore_n 3, 1), some (.iinc 4 1, 3), none, none, some (.goto (-90), 3), none, none], [some (.return_, 1)]]
def s_cd51 : sCode := [[some (.aload_n 0, 1), some (.iload_n 1, 1), some (.invokevirtual 321, 3), none, none, some (.ifCond .eq 18, 3), none, none, some (.aload_n 0, 1), some (.getfield 196, 3), none, none, some (.iload_n 1, 1), some (.ishr, 1), some (.iconst 1, 1), some (.iand, 1)], [some (.ifCond .eq 7, 3), none, none, some (.iconst 1, 1), some (.goto 4, 3), none, none, some (.iconst 0, 1), some (.ireturn, 1)]]
def s_cd52 : sCode := [[some (.aconst_null, 1), some (.astore_n 3, 1), some (.iconst 0, 1), some (.istore 4, 2), none, some (.iload 4, 2), none, some (.aload_n 0, 1), some (.getfield 193, 3), none, none, some (.if_icmp .ge 55, 3), none, none, some (.aload_n 0, 1), some (.iload 4, 2)], [none, some (.invokevirtual 329, 3), none, none, some (.astore 5, 2), none, some (.aload_n 0, 1), some (.iload 4, 2), none, some (.invokevirtual 409, 3), none, none, some (.ifCond .eq 32, 3), none, none, some (.aload 5, 2)], [none, some (.getfield 261, 3), none, none, some (.iload_n 1, 1), some (.invokevirtual 65, 3), none, none, some (.ifCond .eq 20, 3), none, none, some (.aload_n 3, 1), some (.ifnull 13, 3), none, none, some (.aload 5, 2)], [none, some (.aload_n 3, 1), some (.iload_n 2, 1), some (.invokevirtual 498, 3), none, none, some (.ifCond .eq 6, 3), none, none, some (.aload 5, 2), none, some (.astore_n 3, 1), some (.iinc 4 1, 3), none, none, some (.goto (-58), 3)], [none, none, some (.aload_n 3, 1), some (.areturn, 1)]]
def s_cd53 : sCode := [[some (.aload_n 0, 1), some (.iload_n 1, 1), some (.iload_n 2, 1), some (.invokevirtual 418, 3), none, none, some (.invokestatic 433, 3), none, none, some (.ireturn, 1)]]
def s_cd54 : sCode := [[some (.aload_n 0, 1), some (.ifnonnull 8, 3), none, none, some (.bipush (-2), 2), none, some (.goto 7, 3), none, none, some (.aload_n 0, 1), some (.getfield 258, 3), none, none, some (.ireturn, 1)]]
def s_cd55 : sCode := [[some (.iconst 0, 1), some (.istore_n 3, 1), some (.iconst 0, 1), some (.istore 4, 2), none, some (.iload 4, 2), none, some (.aload_n 0, 1), some (.getfield 193, 3), none, none, some (.if_icmp .ge 57, 3), none, none, some (.aload_n 0, 1), some (.iload 4, 2)], [none, some (.invokevirtual 329, 3), none, none, some (.astore 5, 2), none, some (.aload_n 0, 1), some (.iload 4, 2), none, some (.invokevirtual 409, 3), none, none, some (.ifCond .eq 34, 3), none, none, some (.aload 5, 2)], [none, some (.getfield 261, 3), none, none, some (.iload_n 2, 1), some (.invokevirtual 65, 3), none, none, some (.ifCond .eq 22, 3), none, none, some (.aload 5, 2), none, some (.getfield 258, 3), none, none], [some (.aload_n 1, 1), some (.getfield 258, 3), none, none, some (.if_icmp .eq 10, 3), none, none, some (.iload_n 3, 1), some (.iconst 1, 1), some (.iload 4, 2), none, some (.ishl, 1), some (.ior, 1), some (.istore_n 3, 1), some (.iinc 4 1, 3), none], [none, some (.goto (-60), 3), none, none, some (.iload_n 3, 1), some (.ireturn, 1)]]
def s_cd56 : sCode := [[some (.iconst 0, 1), some (.istore_n 2, 1), some (.iload_n 2, 1), some (.aload_n 1, 1), some (.invokevirtual 752, 3), none, none, some (.if_icmp .ge 40, 3), none, none, some (.aload_n 1, 1), some (.iload_n 2, 1), some (.invokevirtual 761, 3), none, none, some (.ifCond .eq 24, 3)], [none, none, some (.aload_n 0, 1), some (.aload_n 1, 1), some (.iload_n 2, 1), some (.invokevirtual 777, 3), none, none, some (.aload_n 0, 1), some (.getfield 194, 3), none, none, some (.invokevirtual 426, 3), none, none, some (.aload_n 1, 1)], [some (.iload_n 2, 1), some (.invokevirtual 785, 3), none, none, some (.if_icmp .eq 5, 3), none, none, some (.iload_n 2, 1), some (.ireturn, 1), some (.iinc 2 1, 3), none, none, some (.goto (-42), 3), none, none, some (.iconst (-1), 1)], [some (.ireturn, 1)]]
def s_cd57 : sCode := [[some (.iconst 0, 1), some (.istore_n 1, 1), some (.iload_n 1, 1), some (.aload_n 0, 1), some (.getfield 201, 3), none, none, some (.arraylength, 1), some (.if_icmp .ge 24, 3), none, none, some (.aload_n 0, 1), some (.getfield 201, 3), none, none, some (.iload_n 1, 1)], [some (.aload_n 0, 1), some (.iload_n 1, 1), some (.aload_n 0, 1), some (.getfield 194, 3), none, none, some (.invokevirtual 426, 3), none, none, some (.iastore, 1), some (.iinc 1 1, 3), none, none, some (.goto (-27), 3), none, none], [some (.return_, 1)]]
def s_cd58 : sCode := [[some (.aload_n 1, 1), some (.invokevirtual 40, 3), none, none, some (.iconst 0, 1), some (.istore_n 2, 1), some (.iload_n 2, 1), some (.aload_n 0, 1), some (.getfield 201, 3), none, none, some (.arraylength, 1), some (.if_icmp .ge 32, 3), none, none, some (.aload_n 0, 1)], [some (.getfield 201, 3), none, none, some (.iload_n 2, 1), some (.iaload, 1), some (.aload_n 0, 1), some (.iload_n 2, 1), some (.aload_n 0, 1), some (.getfield 194, 3), none, none, some (.invokevirtual 426, 3), none, none, some (.if_icmp .eq 8, 3), none], [none, some (.aload_n 1, 1), some (.iload_n 2, 1), some (.invokevirtual 57, 3), none, none, some (.iinc 2 1, 3), none, none, some (.goto (-35), 3), none, none, some (.return_, 1)]]
def s_cd59 : sCode := [[some (.iload_n 1, 1), some (.istore_n 2, 1), some (.iconst 0, 1), some (.istore_n 3, 1), some (.iload_n 3, 1), some (.aload_n 0, 1), some (.getfield 193, 3), none, none, some (.if_icmp .ge 41, 3), none, none, some (.aload_n 0, 1), some (.iload_n 2, 1), some (.invokevirtual 369, 3), none], [none, some (.ifCond .eq 14, 3), none, none, some (.aload_n 0, 1), some (.iload_n 2, 1), some (.invokevirtual 329, 3), none, none, some (.getfield 259, 3), none, none, some (.goto 4, 3), none, none, some (.iconst (-1), 1)], [some (.istore_n 2, 1), some (.iload_n 2, 1), some (.iload_n 1, 1), some (.if_icmp .ne 9, 3), none, none, some (.aload_n 0, 1), some (.iload_n 1, 1), some (.invokevirtual 369, 3), none, none, some (.ireturn, 1), some (.iinc 3 1, 3), none, none, some (.goto (-43), 3)], [none, none, some (.iconst 0, 1), some (.ireturn, 1)]]
def s_cd60 : sCode := [[some (.aload_n 0, 1), some (.invokespecial 0, 3), none, none, some (.aload_n 0, 1), some (.iconst 0, 1), some (.putfield 257, 3), none, none, some (.aload_n 0, 1), some (.iconst 0, 1), some (.putfield 258, 3), none, none, some (.aload_n 0, 1), some (.iconst (-1), 1)], [some (.putfield 259, 3), none, none, some (.aload_n 0, 1), some (.new 7, 3), none, none, some (.dup, 1), some (.invokespecial 792, 3), none, none, some (.putstatic 260, 3), none, none, some (.aload_n 0, 1), some (.new 0, 3)], [none, none, some (.dup, 1), some (.invokespecial 8, 3), none, none, some (.putstatic 261, 3), none, none, some (.aload_n 0, 1), some (.iconst 0, 1), some (.putfield 262, 3), none, none, some (.aload_n 0, 1), some (.iconst (-1), 1)], [some (.putfield 263, 3), none, none, some (.aload_n 0, 1), some (.iconst 0, 1), some (.putfield 264, 3), none, none, some (.aload_n 0, 1), some (.iconst 0, 1), some (.putfield 265, 3), none, none, some (.aload_n 0, 1), some (.iconst 0, 1), some (.putfield 266, 3)], [none, none, some (.aload_n 0, 1), some (.iconst (-1), 1), some (.putfield 267, 3), none, none, some (.aload_n 0, 1), some (.iload_n 1, 1), some (.putstatic 256, 3), none, none, some (.return_, 1)]]
def s_cd61 : sCode := [[some (.aload_n 0, 1), some (.getfield 257, 3), none, none, some (.aload_n 1, 1), some (.getfield 257, 3), none, none, some (.if_icmp .lt 25, 3), none, none, some (.aload_n 0, 1), some (.getfield 257, 3), none, none, some (.aload_n 1, 1)], [some (.getfield 257, 3), none, none, some (.if_icmp .ne 18, 3), none, none, some (.aload_n 0, 1), some (.getfield 256, 3), none, none, some (.aload_n 1, 1), some (.getfield 256, 3), none, none, some (.if_icmp .ge 7, 3), none], [none, some (.iconst 1, 1), some (.goto 4, 3), none, none, some (.iconst 0, 1), some (.ireturn, 1)]]
def s_cd62 : sCode := [[some (.iconst 0, 1), some (.istore_n 3, 1), some (.iload_n 2, 1), some (.iconst 1, 1), some (.if_icmp .ne 9, 3), none, none, some (.aload_n 1, 1), some (.aload_n 0, 1), some (.invokevirtual 489, 3), none, none, some (.ireturn, 1), some (.iload_n 2, 1), some (.iconst 2, 1), some (.if_icmp .ne 22, 3)], [none, none, some (.aload_n 0, 1), some (.getfield 261, 3), none, none, some (.invokevirtual 80, 3), none, none, some (.aload_n 1, 1), some (.getfield 261, 3), none, none, some (.invokevirtual 80, 3), none, none], [some (.isub, 1), some (.istore_n 3, 1), some (.goto 18, 3), none, none, some (.iload_n 2, 1), some (.iconst 3, 1), some (.if_icmp .ne 13, 3), none, none, some (.aload_n 0, 1), some (.invokevirtual 504, 3), none, none, some (.aload_n 1, 1), some (.invokevirtual 504, 3)], [none, none, some (.isub, 1), some (.istore_n 3, 1), some (.iload_n 3, 1), some (.ifCond .lt 15, 3), none, none, some (.iload_n 3, 1), some (.ifCond .ne 15, 3), none, none, some (.aload_n 0, 1), some (.aload_n 1, 1), some (.invokevirtual 489, 3), none], [none, some (.ifCond .eq 7, 3), none, none, some (.iconst 1, 1), some (.goto 4, 3), none, none, some (.iconst 0, 1), some (.ireturn, 1)]]
def s_cd63 : sCode := [[some (.aload_n 0, 1), some (.getfield 258, 3), none, none, some (.iconst 1, 1), some (.if_icmp .ne 5, 3), none, none, some (.iconst 0, 1), some (.ireturn, 1), some (.aload_n 0, 1), some (.getfield 258, 3), none, none, some (.ifCond .ne 7, 3), none], [none, some (.iconst 1, 1), some (.goto 4, 3), none, none, some (.iconst 2, 1), some (.ireturn, 1)]]
def s_cd64 : sCode := [[some (.aload_n 1, 1), some (.iconst 0, 1), some (.iload_n 2, 1), some (.invokevirtual 1042, 3), none, none, some (.istore 4, 2), none, some (.aload_n 1, 1), some (.iconst 1, 1), some (.iload_n 2, 1), some (.invokevirtual 1042, 3), none, none, some (.istore 5, 2), none], [some (.aload_n 1, 1), some (.iconst 2, 1), some (.iload_n 2, 1), some (.invokevirtual 1042, 3), none, none, some (.istore 6, 2), none, some (.iload 4, 2), none, some (.bipush 9, 2), none, some (.imul, 1), some (.iload 5, 2), none, some (.iconst 3, 1)], [some (.imul, 1), some (.iadd, 1), some (.iload 6, 2), none, some (.iadd, 1), some (.istore 7, 2), none, some (.aload_n 0, 1), some (.getfield 263, 3), none, none, some (.iload_n 2, 1), some (.if_icmp .ne 24, 3), none, none, some (.aload_n 0, 1)], [some (.getfield 262, 3), none, none, some (.aload_n 0, 1), some (.getfield 257, 3), none, none, some (.if_icmp .ne 13, 3), none, none, some (.aload_n 0, 1), some (.getfield 264, 3), none, none, some (.iload 7, 2), none], [some (.if_icmp .ne 4, 3), none, none, some (.return_, 1), some (.aload_n 0, 1), some (.iload_n 2, 1), some (.putfield 263, 3), none, none, some (.aload_n 0, 1), some (.aload_n 0, 1), some (.getfield 257, 3), none, none, some (.putfield 262, 3), none], [none, some (.aload_n 0, 1), some (.iload 7, 2), none, some (.putfield 264, 3), none, none, some (.aload_n 0, 1), some (.getfield 261, 3), none, none, some (.invokevirtual 40, 3), none, none, some (.iconst 0, 1), some (.istore 8, 2)], [none, some (.iload 8, 2), none, some (.bipush 125, 2), none, some (.if_icmp .ge 84, 3), none, none, some (.aload_n 3, 1), some (.arraylength, 1), some (.bipush 6, 2), none, some (.if_icmp .lt 77, 3), none, none, some (.aload_n 3, 1)], [some (.iconst 0, 1), some (.iload 8, 2), none, some (.iload 4, 2), none, some (.invokestatic 34, 3), none, none, some (.iastore, 1), some (.aload_n 3, 1), some (.iconst 1, 1), some (.iload 8, 2), none, some (.iload 5, 2), none, some (.invokestatic 34, 3)], [none, none, some (.iastore, 1), some (.aload_n 3, 1), some (.iconst 2, 1), some (.iload 8, 2), none, some (.iload 6, 2), none, some (.invokestatic 34, 3), none, none, some (.iastore, 1), some (.aload_n 3, 1), some (.iconst 3, 1), some (.aload_n 0, 1)], [some (.getfield 257, 3), none, none, some (.iastore, 1), some (.aload_n 3, 1), some (.iconst 4, 1), some (.iload_n 2, 1), some (.iastore, 1), some (.aload_n 3, 1), some (.iconst 5, 1), some (.aload_n 0, 1), some (.getfield 256, 3), none, none, some (.iastore, 1), some (.aload_n 0, 1)], [some (.getfield 260, 3), none, none, some (.aload_n 3, 1), some (.invokevirtual 841, 3), none, none, some (.ifCond .eq 12, 3), none, none, some (.aload_n 0, 1), some (.getfield 261, 3), none, none, some (.iload 8, 2), none], [some (.invokevirtual 57, 3), none, none, some (.iinc 8 1, 3), none, none, some (.goto (-85), 3), none, none, some (.return_, 1)]]
def s_cd65 : sCode := [[some (.aload_n 0, 1), some (.aload_n 0, 1), some (.getfield 257, 3), none, none, some (.putfield 265, 3), none, none, some (.aload_n 0, 1), some (.aload_n 0, 1), some (.getfield 258, 3), none, none, some (.putfield 266, 3), none, none], [some (.aload_n 0, 1), some (.aload_n 0, 1), some (.getfield 259, 3), none, none, some (.putfield 267, 3), none, none, some (.return_, 1)]]
def s_cd66 : sCode := [[some (.aload_n 0, 1), some (.aload_n 0, 1), some (.getfield 265, 3), none, none, some (.putfield 257, 3), none, none, some (.aload_n 0, 1), some (.aload_n 0, 1), some (.getfield 266, 3), none, none, some (.putfield 258, 3), none, none], [some (.aload_n 0, 1), some (.aload_n 0, 1), some (.getfield 267, 3), none, none, some (.putfield 259, 3), none, none, some (.return_, 1)]]
def s_cd67 : sCode := [[some (.aload_n 0, 1), some (.invokespecial 0, 3), none, none, some (.aload_n 0, 1), some (.new 7, 3), none, none, some (.dup, 1), some (.invokespecial 792, 3), none, none, some (.putstatic 320, 3), none, none, some (.aload_n 0, 1)], [some (.bipush 60, 2), none, some (.newarray .int, 2), none, some (.putstatic 321, 3), none, none, some (.aload_n 0, 1), some (.iconst 0, 1), some (.putfield 322, 3), none, none, some (.aload_n 0, 1), some (.iconst 0, 1), some (.putfield 323, 3), none], [none, some (.return_, 1)]]
def s_cd68 : sCode := [[some (.aload_n 0, 1), some (.iconst 0, 1), some (.iload_n 2, 1), some (.aload_n 1, 1), some (.arraylength, 1), some (.aload_n 0, 1), some (.getfield 321, 3), none, none, some (.arraylength, 1), some (.invokedynamic 1, 3), none, none, some (.invokedynamic 1, 3), none, none], [some (.invokedynamic 2, 3), none, none, some (.putfield 322, 3), none, none, some (.aload_n 1, 1), some (.iconst 0, 1), some (.aload_n 0, 1), some (.getfield 321, 3), none, none, some (.iconst 0, 1), some (.aload_n 0, 1), some (.getfield 322, 3), none], [none, some (.invokedynamic 0, 3), none, none, some (.aload_n 0, 1), some (.iconst 0, 1), some (.putfield 323, 3), none, none, some (.aload_n 0, 1), some (.getfield 320, 3), none, none, some (.invokevirtual 800, 3), none, none], [some (.aload_n 0, 1), some (.invokevirtual 568, 3), none, none, some (.ifCond .eq 7, 3), none, none, some (.iconst (-1), 1), some (.goto 7, 3), none, none, some (.aload_n 0, 1), some (.getfield 323, 3), none, none, some (.ireturn, 1)]]
def s_cd69 : sCode := [[some (.aload_n 0, 1), some (.invokevirtual 560, 3), none, none, some (.iload_n 1, 1), some (.if_icmp .eq 5, 3), none, none, some (.iconst 0, 1), some (.ireturn, 1), some (.aload_n 0, 1), some (.dup, 1), some (.getfield 323, 3), none, none, some (.iconst 1, 1)], [some (.iadd, 1), some (.putfield 323, 3), none, none, some (.iconst 1, 1), some (.ireturn, 1)]]
def s_cd70 : sCode := [[some (.aload_n 0, 1), some (.getfield 323, 3), none, none, some (.ifCond .lt 38, 3), none, none, some (.aload_n 0, 1), some (.getfield 323, 3), none, none, some (.aload_n 0, 1), some (.getfield 322, 3), none, none, some (.if_icmp .ge 27, 3)], [none, none, some (.aload_n 0, 1), some (.getfield 323, 3), none, none, some (.aload_n 0, 1), some (.getfield 321, 3), none, none, some (.arraylength, 1), some (.if_icmp .ge 15, 3), none, none, some (.aload_n 0, 1), some (.getfield 321, 3)], [none, none, some (.aload_n 0, 1), some (.getfield 323, 3), none, none, some (.iaload, 1), some (.goto 4, 3), none, none, some (.iconst (-1), 1), some (.ireturn, 1)]]
def s_cd71 : sCode := [[some (.iconst 0, 1), some (.istore_n 1, 1), some (.iload_n 1, 1), some (.bipush 60, 2), none, some (.if_icmp .ge 42, 3), none, none, some (.aload_n 0, 1), some (.invokevirtual 576, 3), none, none, some (.ifCond .ne 5, 3), none, none, some (.iconst 0, 1)], [some (.ireturn, 1), some (.aload_n 0, 1), some (.getfield 323, 3), none, none, some (.aload_n 0, 1), some (.getfield 322, 3), none, none, some (.if_icmp .lt 5, 3), none, none, some (.iconst 1, 1), some (.ireturn, 1), some (.aload_n 0, 1), some (.bipush 59, 2)], [none, some (.invokevirtual 553, 3), none, none, some (.ifCond .ne 5, 3), none, none, some (.iconst 0, 1), some (.ireturn, 1), some (.iinc 1 1, 3), none, none, some (.goto (-42), 3), none, none, some (.iconst 0, 1)], [some (.ireturn, 1)]]
def s_cd72 : sCode := [[some (.aload_n 0, 1), some (.iconst 0, 1), some (.invokevirtual 585, 3), none, none, some (.ifCond .ne 5, 3), none, none, some (.iconst 0, 1), some (.ireturn, 1), some (.aload_n 0, 1), some (.bipush 63, 2), none, some (.invokevirtual 553, 3), none, none], [some (.ifCond .ne 14, 3), none, none, some (.aload_n 0, 1), some (.getfield 320, 3), none, none, some (.ldc 40000, 2), none, some (.invokevirtual 817, 3), none, none, some (.iconst 1, 1), some (.ireturn, 1), some (.aload_n 0, 1), some (.getfield 320, 3)], [none, none, some (.invokevirtual 808, 3), none, none, some (.istore_n 1, 1), some (.aload_n 0, 1), some (.getfield 320, 3), none, none, some (.sipush 30000, 3), none, none, some (.invokevirtual 817, 3), none, none], [some (.aload_n 0, 1), some (.iconst 0, 1), some (.invokevirtual 585, 3), none, none, some (.ifCond .ne 5, 3), none, none, some (.iconst 0, 1), some (.ireturn, 1), some (.aload_n 0, 1), some (.getfield 320, 3), none, none, some (.ldc 40000, 2), none], [some (.invokevirtual 817, 3), none, none, some (.aload_n 0, 1), some (.getfield 320, 3), none, none, some (.iload_n 1, 1), some (.invokevirtual 825, 3), none, none, some (.iconst 1, 1), some (.ireturn, 1)]]
def s_cd73 : sCode := [[some (.aload_n 0, 1), some (.iload_n 1, 1), some (.invokevirtual 593, 3), none, none, some (.istore_n 2, 1), some (.iconst 0, 1), some (.istore_n 3, 1), some (.iload_n 3, 1), some (.bipush 60, 2), none, some (.if_icmp .ge 38, 3), none, none, some (.iload_n 2, 1), some (.ifCond .eq 34, 3)], [none, none, some (.aload_n 0, 1), some (.bipush 124, 2), none, some (.invokevirtual 553, 3), none, none, some (.ifCond .eq 25, 3), none, none, some (.aload_n 0, 1), some (.iload_n 1, 1), some (.invokevirtual 593, 3), none, none], [some (.istore_n 2, 1), some (.aload_n 0, 1), some (.getfield 320, 3), none, none, some (.sipush 20124, 3), none, none, some (.invokevirtual 817, 3), none, none, some (.iinc 3 1, 3), none, none, some (.goto (-38), 3), none], [none, some (.iload_n 2, 1), some (.ireturn, 1)]]
def s_cd74 : sCode := [[some (.aload_n 0, 1), some (.iload_n 1, 1), some (.invokevirtual 601, 3), none, none, some (.istore_n 2, 1), some (.iconst 0, 1), some (.istore_n 3, 1), some (.iload_n 3, 1), some (.bipush 60, 2), none, some (.if_icmp .ge 38, 3), none, none, some (.iload_n 2, 1), some (.ifCond .eq 34, 3)], [none, none, some (.aload_n 0, 1), some (.bipush 38, 2), none, some (.invokevirtual 553, 3), none, none, some (.ifCond .eq 25, 3), none, none, some (.aload_n 0, 1), some (.iload_n 1, 1), some (.invokevirtual 601, 3), none, none], [some (.istore_n 2, 1), some (.aload_n 0, 1), some (.getfield 320, 3), none, none, some (.sipush 20038, 3), none, none, some (.invokevirtual 817, 3), none, none, some (.iinc 3 1, 3), none, none, some (.goto (-38), 3), none], [none, some (.iload_n 2, 1), some (.ireturn, 1)]]
def s_cd75 : sCode := [[some (.aload_n 0, 1), some (.iload_n 1, 1), some (.invokevirtual 609, 3), none, none, some (.ifCond .ne 5, 3), none, none, some (.iconst 0, 1), some (.ireturn, 1), some (.aload_n 0, 1), some (.invokevirtual 560, 3), none, none, some (.istore_n 2, 1), some (.iload_n 2, 1)], [some (.bipush 60, 2), none, some (.if_icmp .eq 17, 3), none, none, some (.iload_n 2, 1), some (.bipush 61, 2), none, some (.if_icmp .eq 11, 3), none, none, some (.iload_n 2, 1), some (.bipush 62, 2), none, some (.if_icmp .eq 5, 3), none], [none, some (.iconst 1, 1), some (.ireturn, 1), some (.aload_n 0, 1), some (.dup, 1), some (.getfield 323, 3), none, none, some (.iconst 1, 1), some (.iadd, 1), some (.putfield 323, 3), none, none, some (.aload_n 0, 1), some (.iload_n 1, 1), some (.invokevirtual 609, 3)], [none, none, some (.istore_n 3, 1), some (.aload_n 0, 1), some (.getfield 320, 3), none, none, some (.sipush 20000, 3), none, none, some (.iload_n 2, 1), some (.iadd, 1), some (.invokevirtual 817, 3), none, none, some (.iload_n 3, 1)], [some (.ireturn, 1)]]
def s_cd76 : sCode := [[some (.aload_n 0, 1), some (.iload_n 1, 1), some (.invokevirtual 617, 3), none, none, some (.istore_n 2, 1), some (.iconst 0, 1), some (.istore_n 3, 1), some (.iload_n 3, 1), some (.bipush 60, 2), none, some (.if_icmp .ge 64, 3), none, none, some (.iload_n 2, 1), some (.ifCond .eq 60, 3)], [none, none, some (.aload_n 0, 1), some (.invokevirtual 560, 3), none, none, some (.istore 4, 2), none, some (.iload 4, 2), none, some (.bipush 43, 2), none, some (.if_icmp .eq 12, 3), none, none, some (.iload 4, 2)], [none, some (.bipush 45, 2), none, some (.if_icmp .eq 5, 3), none, none, some (.iconst 1, 1), some (.ireturn, 1), some (.aload_n 0, 1), some (.dup, 1), some (.getfield 323, 3), none, none, some (.iconst 1, 1), some (.iadd, 1), some (.putfield 323, 3)], [none, none, some (.aload_n 0, 1), some (.iload_n 1, 1), some (.invokevirtual 617, 3), none, none, some (.istore_n 2, 1), some (.aload_n 0, 1), some (.getfield 320, 3), none, none, some (.sipush 20000, 3), none, none, some (.iload 4, 2)], [none, some (.iadd, 1), some (.invokevirtual 817, 3), none, none, some (.iinc 3 1, 3), none, none, some (.goto (-64), 3), none, none, some (.iload_n 2, 1), some (.ireturn, 1)]]
def s_cd77 : sCode := [[some (.aload_n 0, 1), some (.iload_n 1, 1), some (.invokevirtual 625, 3), none, none, some (.istore_n 2, 1), some (.iconst 0, 1), some (.istore_n 3, 1), some (.iload_n 3, 1), some (.bipush 60, 2), none, some (.if_icmp .ge 71, 3), none, none, some (.iload_n 2, 1), some (.ifCond .eq 67, 3)], [none, none, some (.aload_n 0, 1), some (.invokevirtual 560, 3), none, none, some (.istore 4, 2), none, some (.iload 4, 2), none, some (.bipush 42, 2), none, some (.if_icmp .eq 19, 3), none, none, some (.iload 4, 2)], [none, some (.bipush 47, 2), none, some (.if_icmp .eq 12, 3), none, none, some (.iload 4, 2), none, some (.bipush 37, 2), none, some (.if_icmp .eq 5, 3), none, none, some (.iconst 1, 1), some (.ireturn, 1), some (.aload_n 0, 1)], [some (.dup, 1), some (.getfield 323, 3), none, none, some (.iconst 1, 1), some (.iadd, 1), some (.putfield 323, 3), none, none, some (.aload_n 0, 1), some (.iload_n 1, 1), some (.invokevirtual 625, 3), none, none, some (.istore_n 2, 1), some (.aload_n 0, 1)], [some (.getfield 320, 3), none, none, some (.sipush 20000, 3), none, none, some (.iload 4, 2), none, some (.iadd, 1), some (.invokevirtual 817, 3), none, none, some (.iinc 3 1, 3), none, none, some (.goto (-71), 3)], [none, none, some (.iload_n 2, 1), some (.ireturn, 1)]]
def s_cd78 : sCode := [[some (.aload_n 0, 1), some (.invokevirtual 560, 3), none, none, some (.istore_n 2, 1), some (.iload_n 2, 1), some (.invokestatic 649, 3), none, none, some (.istore_n 3, 1), some (.iload_n 3, 1), some (.ifCond .lt 27, 3), none, none, some (.aload_n 0, 1), some (.dup, 1)], [some (.getfield 323, 3), none, none, some (.iconst 1, 1), some (.iadd, 1), some (.putfield 323, 3), none, none, some (.aload_n 0, 1), some (.getfield 320, 3), none, none, some (.sipush 10000, 3), none, none, some (.iload_n 3, 1)], [some (.iadd, 1), some (.invokevirtual 817, 3), none, none, some (.iconst 1, 1), some (.ireturn, 1), some (.iload_n 2, 1), some (.invokestatic 641, 3), none, none, some (.ifCond .eq 9, 3), none, none, some (.aload_n 0, 1), some (.invokevirtual 632, 3), none], [none, some (.iconst 1, 1), some (.ireturn, 1), some (.iload_n 1, 1), some (.bipush 6, 2), none, some (.if_icmp .ge 21, 3), none, none, some (.iload_n 2, 1), some (.bipush 40, 2), none, some (.if_icmp .eq 17, 3), none, none, some (.iload_n 2, 1)], [some (.bipush 33, 2), none, some (.if_icmp .eq 11, 3), none, none, some (.iload_n 2, 1), some (.bipush 45, 2), none, some (.if_icmp .eq 5, 3), none, none, some (.iconst 0, 1), some (.ireturn, 1), some (.aload_n 0, 1), some (.dup, 1), some (.getfield 323, 3)], [none, none, some (.iconst 1, 1), some (.iadd, 1), some (.putfield 323, 3), none, none, some (.iload_n 2, 1), some (.bipush 40, 2), none, some (.if_icmp .ne 28, 3), none, none, some (.aload_n 0, 1), some (.iload_n 1, 1), some (.iconst 1, 1)], [some (.iadd, 1), some (.invokevirtual 585, 3), none, none, some (.ifCond .eq 16, 3), none, none, some (.aload_n 0, 1), some (.bipush 41, 2), none, some (.invokevirtual 553, 3), none, none, some (.ifCond .eq 7, 3), none, none], [some (.iconst 1, 1), some (.goto 4, 3), none, none, some (.iconst 0, 1), some (.ireturn, 1), some (.aload_n 0, 1), some (.iload_n 1, 1), some (.iconst 1, 1), some (.iadd, 1), some (.invokevirtual 625, 3), none, none, some (.istore 4, 2), none, some (.aload_n 0, 1)], [some (.getfield 320, 3), none, none, some (.sipush 20000, 3), none, none, some (.iload_n 2, 1), some (.bipush 33, 2), none, some (.if_icmp .ne 8, 3), none, none, some (.bipush 33, 2), none, some (.goto 5, 3), none], [none, some (.bipush 95, 2), none, some (.iadd, 1), some (.invokevirtual 817, 3), none, none, some (.iload 4, 2), none, some (.ireturn, 1)]]
def s_cd79 : sCode := [[some (.iconst 0, 1), some (.istore_n 1, 1), some (.iconst 0, 1), some (.istore_n 2, 1), some (.iload_n 2, 1), some (.iconst 4, 1), some (.if_icmp .ge 42, 3), none, none, some (.aload_n 0, 1), some (.invokevirtual 560, 3), none, none, some (.invokestatic 641, 3), none, none], [some (.ifCond .eq 32, 3), none, none, some (.iload_n 1, 1), some (.bipush 10, 2), none, some (.imul, 1), some (.aload_n 0, 1), some (.invokevirtual 560, 3), none, none, some (.iadd, 1), some (.bipush 48, 2), none, some (.isub, 1), some (.istore_n 1, 1)], [some (.aload_n 0, 1), some (.dup, 1), some (.getfield 323, 3), none, none, some (.iconst 1, 1), some (.iadd, 1), some (.putfield 323, 3), none, none, some (.iinc 2 1, 3), none, none, some (.goto (-41), 3), none, none], [some (.aload_n 0, 1), some (.getfield 320, 3), none, none, some (.iload_n 1, 1), some (.invokevirtual 817, 3), none, none, some (.return_, 1)]]
def s_cd80 : sCode := [[some (.iload_n 0, 1), some (.bipush 48, 2), none, some (.if_icmp .lt 13, 3), none, none, some (.iload_n 0, 1), some (.bipush 57, 2), none, some (.if_icmp .gt 7, 3), none, none, some (.iconst 1, 1), some (.goto 4, 3), none, none], [some (.iconst 0, 1), some (.ireturn, 1)]]
def s_cd81 : sCode := [[some (.iload_n 0, 1), some (.lookupswitch 71 #[(100, 65), (110, 69), (116, 67), (120, 59), (121, 61), (122, 63)], 59), none, none, none, none, none, none, none, none, none, none, none, none, none, none], [none, none, none, none, none, none, none, none, none, none, none, none, none, none, none, none], [none, none, none, none, none, none, none, none, none, none, none, none, none, none, none, none], [none, none, none, none, none, none, none, none, none, none, none, none, some (.iconst 0, 1), some (.ireturn, 1), some (.iconst 1, 1), some (.ireturn, 1)], [some (.iconst 2, 1), some (.ireturn, 1), some (.iconst 3, 1), some (.ireturn, 1), some (.iconst 4, 1), some (.ireturn, 1), some (.iconst 5, 1), some (.ireturn, 1), some (.iconst (-1), 1), some (.ireturn, 1)]]
def s_cd82 : sCode := [[some (.aload_n 0, 1), some (.invokespecial 0, 3), none, none, some (.aload_n 0, 1), some (.iconst (-1), 1), some (.putfield 384, 3), none, none, some (.aload_n 0, 1), some (.iconst (-1), 1), some (.putfield 385, 3), none, none, some (.aload_n 0, 1), some (.iconst 0, 1)], [some (.putfield 386, 3), none, none, some (.aload_n 0, 1), some (.bipush 60, 2), none, some (.newarray .long, 2), none, some (.putstatic 387, 3), none, none, some (.return_, 1)]]
def s_cd83 : sCode := [[some (.iload_n 0, 1), some (.ifCond .lt 12, 3), none, none, some (.iload_n 0, 1), some (.iconst 4, 1), some (.if_icmp .gt 7, 3), none, none, some (.iconst 1, 1), some (.goto 4, 3), none, none, some (.iconst 0, 1), some (.ireturn, 1)]]
def s_cd84 : sCode := [[some (.aload_n 0, 1), some (.getfield 384, 3), none, none, some (.iconst (-1), 1), some (.if_icmp .ne 7, 3), none, none, some (.iconst 1, 1), some (.goto 4, 3), none, none, some (.iconst 0, 1), some (.ireturn, 1)]]
def s_cd85 : sCode := [[some (.aload_n 0, 1), some (.getfield 384, 3), none, none, some (.invokestatic 665, 3), none, none, some (.ireturn, 1)]]
def s_cd86 : sCode := [[some (.aload_n 0, 1), some (.iconst (-1), 1), some (.putfield 384, 3), none, none, some (.return_, 1)]]
def s_cd87 : sCode := [[some (.aload_n 0, 1), some (.iconst 5, 1), some (.putfield 384, 3), none, none, some (.aload_n 0, 1), some (.iload_n 1, 1), some (.putfield 385, 3), none, none, some (.return_, 1)]]
def s_cd88 : sCode := [[some (.aload_n 0, 1), some (.iload_n 1, 1), some (.putfield 384, 3), none, none, some (.aload_n 0, 1), some (.iload_n 2, 1), some (.putfield 386, 3), none, none, some (.iconst 0, 1), some (.istore_n 3, 1), some (.iload_n 3, 1), some (.aload_n 0, 1), some (.getfield 387, 3), none], [none, some (.arraylength, 1), some (.if_icmp .ge 16, 3), none, none, some (.aload_n 0, 1), some (.getfield 387, 3), none, none, some (.iload_n 3, 1), some (.lconst 0, 1), some (.lastore, 1), some (.iinc 3 1, 3), none, none, some (.goto (-19), 3)], [none, none, some (.return_, 1)]]
def s_cd89 : sCode := [[some (.iload_n 1, 1), some (.ifCond .lt 29, 3), none, none, some (.iload_n 2, 1), some (.ifCond .lt 25, 3), none, none, some (.iload_n 2, 1), some (.aload_n 0, 1), some (.getfield 386, 3), none, none, some (.if_icmp .gt 17, 3), none, none], [some (.iload_n 1, 1), some (.aload_n 0, 1), some (.getfield 386, 3), none, none, some (.iload_n 2, 1), some (.isub, 1), some (.if_icmp .gt 7, 3), none, none, some (.iconst 1, 1), some (.goto 4, 3), none, none, some (.iconst 0, 1), some (.ireturn, 1)]]
def s_cd90 : sCode := [[some (.iload_n 1, 1), some (.ifCond .lt 29, 3), none, none, some (.iload_n 1, 1), some (.aload_n 0, 1), some (.getfield 386, 3), none, none, some (.if_icmp .ge 21, 3), none, none, some (.iload_n 1, 1), some (.aload_n 0, 1), some (.getfield 387, 3), none], [none, some (.arraylength, 1), some (.if_icmp .ge 12, 3), none, none, some (.aload_n 0, 1), some (.getfield 387, 3), none, none, some (.iload_n 1, 1), some (.laload, 1), some (.goto 4, 3), none, none, some (.lconst 0, 1), some (.lreturn, 1)]]
def s_cd91 : sCode := [[some (.iload_n 1, 1), some (.ifCond .lt 31, 3), none, none, some (.iload_n 1, 1), some (.aload_n 0, 1), some (.getfield 386, 3), none, none, some (.if_icmp .ge 23, 3), none, none, some (.iload_n 1, 1), some (.aload_n 0, 1), some (.getfield 387, 3), none], [none, some (.arraylength, 1), some (.if_icmp .ge 14, 3), none, none, some (.aload_n 0, 1), some (.getfield 387, 3), none, none, some (.iload_n 1, 1), some (.aload_n 0, 1), some (.lload_n 2, 1), some (.invokevirtual 737, 3), none, none, some (.lastore, 1)], [some (.return_, 1)]]
def s_cd92 : sCode := [[some (.aload_n 0, 1), some (.getfield 384, 3), none, none, some (.tableswitch 48 0 3 #[32, 37, 42, 46], 32), none, none, none, none, none, none, none, none, none, none, none], [none, none, none, none, none, none, none, none, none, none, none, none, none, none, none, none], [none, none, none, none, some (.lload_n 1, 1), some (.l2i, 1), some (.i2b, 1), some (.i2l, 1), some (.lreturn, 1), some (.lload_n 1, 1), some (.l2i, 1), some (.i2s, 1), some (.i2l, 1), some (.lreturn, 1), some (.lload_n 1, 1), some (.l2i, 1)], [some (.i2l, 1), some (.lreturn, 1), some (.lload_n 1, 1), some (.lreturn, 1), some (.lload_n 1, 1), some (.lconst 0, 1), some (.lcmp, 1), some (.ifCond .eq 7, 3), none, none, some (.lconst 1, 1), some (.goto 4, 3), none, none, some (.lconst 0, 1), some (.lreturn, 1)]]
def s_cd93 : sCode := [[some (.aload_n 1, 1), some (.iload_n 2, 1), some (.iload 4, 2), none, some (.invokevirtual 714, 3), none, none, some (.ifCond .eq 28, 3), none, none, some (.aload_n 0, 1), some (.iload_n 3, 1), some (.iload 4, 2), none, some (.invokevirtual 714, 3), none], [none, some (.ifCond .eq 18, 3), none, none, some (.aload_n 1, 1), some (.getfield 387, 3), none, none, some (.iload_n 2, 1), some (.aload_n 0, 1), some (.getfield 387, 3), none, none, some (.iload_n 3, 1), some (.iload 4, 2), none], [some (.invokedynamic 0, 3), none, none, some (.return_, 1)]]
def s_cd94 : sCode := [[some (.aload_n 0, 1), some (.getfield 386, 3), none, none, some (.iconst 1, 1), some (.iadd, 1), some (.iconst 2, 1), some (.idiv, 1), some (.ireturn, 1)]]
def s_cd95 : sCode := [[some (.aload_n 0, 1), some (.iload_n 1, 1), some (.invokevirtual 777, 3), none, none, some (.ifCond .lt 16, 3), none, none, some (.aload_n 0, 1), some (.iload_n 1, 1), some (.invokevirtual 785, 3), none, none, some (.iconst (-1), 1), some (.if_icmp .eq 7, 3), none], [none, some (.iconst 1, 1), some (.goto 4, 3), none, none, some (.iconst 0, 1), some (.ireturn, 1)]]
def s_cd96 : sCode := [[some (.iconst 0, 1), some (.istore_n 1, 1), some (.iload_n 1, 1), some (.aload_n 0, 1), some (.invokevirtual 752, 3), none, none, some (.if_icmp .ge 19, 3), none, none, some (.aload_n 0, 1), some (.iload_n 1, 1), some (.invokevirtual 761, 3), none, none, some (.ifCond .ne 5, 3)], [none, none, some (.iconst 0, 1), some (.ireturn, 1), some (.iinc 1 1, 3), none, none, some (.goto (-21), 3), none, none, some (.iconst 1, 1), some (.ireturn, 1)]]
def s_cd97 : sCode := [[some (.aload_n 0, 1), some (.iconst 2, 1), some (.iload_n 1, 1), some (.imul, 1), some (.invokevirtual 721, 3), none, none, some (.l2i, 1), some (.invokestatic 17, 3), none, none, some (.ireturn, 1)]]
def s_cd98 : sCode := [[some (.aload_n 0, 1), some (.iconst 2, 1), some (.iload_n 1, 1), some (.imul, 1), some (.iconst 1, 1), some (.iadd, 1), some (.invokevirtual 721, 3), none, none, some (.l2i, 1), some (.istore_n 2, 1), some (.iconst 2, 1), some (.iload_n 1, 1), some (.imul, 1), some (.iconst 1, 1), some (.iadd, 1)], [some (.aload_n 0, 1), some (.getfield 386, 3), none, none, some (.if_icmp .lt 7, 3), none, none, some (.iconst 1, 1), some (.goto 4, 3), none, none, some (.iconst 0, 1), some (.istore_n 3, 1), some (.iload_n 3, 1), some (.ifCond .ne 20, 3), none], [none, some (.iload_n 2, 1), some (.invokeinterface 1361 0, 3), none, none, some (.ifCond .ne 9, 3), none, none, some (.iload_n 2, 1), some (.bipush (-2), 2), none, some (.if_icmp .ne 7, 3), none, none, some (.iload_n 2, 1), some (.goto 4, 3)], [none, none, some (.iconst (-1), 1), some (.ireturn, 1)]]
def s_cd99 : sCode := [[some (.aload_n 0, 1), some (.invokespecial 0, 3), none, none, some (.aload_n 0, 1), some (.bipush 61, 2), none, some (.newarray .int, 2), none, some (.putstatic 448, 3), none, none, some (.aload_n 0, 1), some (.bipush 61, 2), none, some (.newarray .int, 2)], [none, some (.putstatic 449, 3), none, none, some (.aload_n 0, 1), some (.iconst 0, 1), some (.putfield 450, 3), none, none, some (.return_, 1)]]
def s_cd100 : sCode := [[some (.aload_n 0, 1), some (.iconst 0, 1), some (.putfield 450, 3), none, none, some (.return_, 1)]]
def s_cd101 : sCode := [[some (.aload_n 0, 1), some (.getfield 450, 3), none, none, some (.ireturn, 1)]]
def s_cd102 : sCode := [[some (.aload_n 0, 1), some (.getfield 450, 3), none, none, some (.ifCond .lt 35, 3), none, none, some (.aload_n 0, 1), some (.getfield 450, 3), none, none, some (.aload_n 0, 1), some (.getfield 448, 3), none, none, some (.arraylength, 1)], [some (.if_icmp .ge 23, 3), none, none, some (.aload_n 0, 1), some (.getfield 448, 3), none, none, some (.aload_n 0, 1), some (.getfield 450, 3), none, none, some (.iload_n 1, 1), some (.iastore, 1), some (.aload_n 0, 1), some (.dup, 1), some (.getfield 450, 3)], [none, none, some (.iconst 1, 1), some (.iadd, 1), some (.putfield 450, 3), none, none, some (.return_, 1)]]
def s_cd103 : sCode := [[some (.iload_n 1, 1), some (.ifCond .lt 26, 3), none, none, some (.iload_n 1, 1), some (.aload_n 0, 1), some (.getfield 448, 3), none, none, some (.arraylength, 1), some (.if_icmp .ge 17, 3), none, none, some (.aload_n 0, 1), some (.getfield 448, 3), none], [none, some (.iload_n 1, 1), some (.sipush 30000, 3), none, none, some (.aload_n 0, 1), some (.getfield 450, 3), none, none, some (.iadd, 1), some (.iastore, 1), some (.return_, 1)]]
def s_cd104 : sCode := [[some (.aload_n 1, 1), some (.getfield 448, 3), none, none, some (.iconst 0, 1), some (.aload_n 0, 1), some (.getfield 448, 3), none, none, some (.iconst 0, 1), some (.aload_n 0, 1), some (.getfield 448, 3), none, none, some (.arraylength, 1), some (.invokedynamic 0, 3)], [none, none, some (.aload_n 0, 1), some (.aload_n 1, 1), some (.getfield 450, 3), none, none, some (.putfield 450, 3), none, none, some (.return_, 1)]]
def s_cd105 : sCode := [[some (.iconst 0, 1), some (.istore_n 2, 1), some (.iconst 0, 1), some (.istore_n 3, 1), some (.iconst 0, 1), some (.istore 4, 2), none, some (.iload 4, 2), none, some (.aload_n 0, 1), some (.getfield 448, 3), none, none, some (.arraylength, 1), some (.if_icmp .ge 171, 3), none], [none, some (.iload_n 3, 1), some (.ifCond .lt 20, 3), none, none, some (.iload_n 3, 1), some (.aload_n 0, 1), some (.getfield 450, 3), none, none, some (.if_icmp .ge 12, 3), none, none, some (.iload_n 3, 1), some (.aload_n 0, 1), some (.getfield 448, 3)], [none, none, some (.arraylength, 1), some (.if_icmp .lt 5, 3), none, none, some (.iconst 0, 1), some (.ireturn, 1), some (.aload_n 0, 1), some (.getfield 448, 3), none, none, some (.iload_n 3, 1), some (.iaload, 1), some (.istore 5, 2), none], [some (.iinc 3 1, 3), none, none, some (.iload 5, 2), none, some (.sipush 30000, 3), none, none, some (.if_icmp .lt 55, 3), none, none, some (.iinc 2 (-1), 3), none, none, some (.iload 5, 2), none], [some (.ldc 40000, 2), none, some (.if_icmp .eq 16, 3), none, none, some (.iload_n 2, 1), some (.ifCond .lt 12, 3), none, none, some (.iload_n 2, 1), some (.aload_n 0, 1), some (.getfield 449, 3), none, none, some (.arraylength, 1), some (.if_icmp .lt 9, 3)], [none, none, some (.aload_n 0, 1), some (.iload_n 2, 1), some (.invokevirtual 849, 3), none, none, some (.ireturn, 1), some (.aload_n 0, 1), some (.getfield 449, 3), none, none, some (.iload_n 2, 1), some (.iaload, 1), some (.ifCond .ne 12, 3), none], [none, some (.iload 5, 2), none, some (.sipush 30000, 3), none, none, some (.isub, 1), some (.goto 4, 3), none, none, some (.iload_n 3, 1), some (.istore_n 3, 1), some (.goto 71, 3), none, none, some (.iload 5, 2)], [none, some (.sipush 20000, 3), none, none, some (.if_icmp .lt 18, 3), none, none, some (.aload_n 0, 1), some (.iload 5, 2), none, some (.sipush 20000, 3), none, none, some (.isub, 1), some (.iload_n 2, 1), some (.invokevirtual 866, 3)], [none, none, some (.istore_n 2, 1), some (.goto 48, 3), none, none, some (.iload_n 2, 1), some (.ifCond .lt 44, 3), none, none, some (.iload_n 2, 1), some (.aload_n 0, 1), some (.getfield 449, 3), none, none, some (.arraylength, 1)], [some (.if_icmp .ge 35, 3), none, none, some (.aload_n 0, 1), some (.getfield 449, 3), none, none, some (.iload_n 2, 1), some (.iload 5, 2), none, some (.sipush 10000, 3), none, none, some (.if_icmp .ge 8, 3), none, none], [some (.iload 5, 2), none, some (.goto 13, 3), none, none, some (.iload 5, 2), none, some (.sipush 10000, 3), none, none, some (.isub, 1), some (.aload_n 1, 1), some (.invokestatic 858, 3), none, none, some (.iastore, 1)], [some (.iinc 2 1, 3), none, none, some (.iinc 4 1, 3), none, none, some (.goto (-175), 3), none, none, some (.iconst 0, 1), some (.ireturn, 1)]]
def s_cd106 : sCode := [[some (.iload_n 1, 1), some (.ifCond .lt 21, 3), none, none, some (.iload_n 1, 1), some (.aload_n 0, 1), some (.getfield 449, 3), none, none, some (.arraylength, 1), some (.if_icmp .ge 12, 3), none, none, some (.aload_n 0, 1), some (.getfield 449, 3), none], [none, some (.iload_n 1, 1), some (.iaload, 1), some (.goto 4, 3), none, none, some (.iconst 0, 1), some (.ireturn, 1)]]
def s_cd107 : sCode := [[some (.iload_n 0, 1), some (.ifCond .lt 15, 3), none, none, some (.iload_n 0, 1), some (.aload_n 1, 1), some (.arraylength, 1), some (.if_icmp .ge 9, 3), none, none, some (.aload_n 1, 1), some (.iload_n 0, 1), some (.iaload, 1), some (.goto 4, 3), none, none], [some (.iconst 0, 1), some (.ireturn, 1)]]
def s_cd108 : sCode := [[some (.iload_n 1, 1), some (.bipush 33, 2), none, some (.if_icmp .eq 9, 3), none, none, some (.iload_n 1, 1), some (.bipush 95, 2), none, some (.if_icmp .ne 7, 3), none, none, some (.iconst 1, 1), some (.goto 4, 3), none, none], [some (.iconst 2, 1), some (.istore_n 3, 1), some (.iload_n 2, 1), some (.iload_n 3, 1), some (.isub, 1), some (.istore 4, 2), none, some (.iload 4, 2), none, some (.ifCond .lt 12, 3), none, none, some (.iload_n 2, 1), some (.aload_n 0, 1), some (.getfield 449, 3), none], [none, some (.arraylength, 1), some (.if_icmp .le 5, 3), none, none, some (.iload_n 2, 1), some (.ireturn, 1), some (.aload_n 0, 1), some (.getfield 449, 3), none, none, some (.iload 4, 2), none, some (.iload_n 3, 1), some (.iconst 1, 1), some (.if_icmp .ne 17, 3)], [none, none, some (.iload_n 1, 1), some (.aload_n 0, 1), some (.getfield 449, 3), none, none, some (.iload 4, 2), none, some (.iaload, 1), some (.invokestatic 874, 3), none, none, some (.goto 22, 3), none, none], [some (.iload_n 1, 1), some (.aload_n 0, 1), some (.getfield 449, 3), none, none, some (.iload 4, 2), none, some (.iaload, 1), some (.aload_n 0, 1), some (.getfield 449, 3), none, none, some (.iload_n 2, 1), some (.iconst 1, 1), some (.isub, 1), some (.iaload, 1)], [some (.invokestatic 883, 3), none, none, some (.iastore, 1), some (.iload 4, 2), none, some (.iconst 1, 1), some (.iadd, 1), some (.ireturn, 1)]]
def s_cd109 : sCode := [[some (.iload_n 0, 1), some (.bipush 33, 2), none, some (.if_icmp .ne 18, 3), none, none, some (.iload_n 1, 1), some (.ifCond .ne 7, 3), none, none, some (.iconst 1, 1), some (.goto 4, 3), none, none, some (.iconst 0, 1), some (.invokestatic 889, 3)], [none, none, some (.goto 5, 3), none, none, some (.iload_n 1, 1), some (.ineg, 1), some (.ireturn, 1)]]
def s_cd110 : sCode := [[some (.iload_n 0, 1), some (.lookupswitch 203 #[(37, 191), (38, 108), (42, 175), (43, 167), (45, 171), (47, 179), (60, 125), (61, 139), (62, 153), (124, 91)], 91), none, none, none, none, none, none, none, none, none, none, none, none, none, none], [none, none, none, none, none, none, none, none, none, none, none, none, none, none, none, none], [none, none, none, none, none, none, none, none, none, none, none, none, none, none, none, none], [none, none, none, none, none, none, none, none, none, none, none, none, none, none, none, none], [none, none, none, none, none, none, none, none, none, none, none, none, none, none, none, none], [none, none, none, none, none, none, none, none, none, none, none, none, some (.iload_n 1, 1), some (.ifCond .ne 7, 3), none, none], [some (.iload_n 2, 1), some (.ifCond .eq 7, 3), none, none, some (.iconst 1, 1), some (.goto 4, 3), none, none, some (.iconst 0, 1), some (.invokestatic 889, 3), none, none, some (.ireturn, 1), some (.iload_n 1, 1), some (.ifCond .eq 11, 3), none], [none, some (.iload_n 2, 1), some (.ifCond .eq 7, 3), none, none, some (.iconst 1, 1), some (.goto 4, 3), none, none, some (.iconst 0, 1), some (.invokestatic 889, 3), none, none, some (.ireturn, 1), some (.iload_n 1, 1), some (.iload_n 2, 1)], [some (.if_icmp .ge 7, 3), none, none, some (.iconst 1, 1), some (.goto 4, 3), none, none, some (.iconst 0, 1), some (.invokestatic 889, 3), none, none, some (.ireturn, 1), some (.iload_n 1, 1), some (.iload_n 2, 1), some (.if_icmp .ne 7, 3), none], [none, some (.iconst 1, 1), some (.goto 4, 3), none, none, some (.iconst 0, 1), some (.invokestatic 889, 3), none, none, some (.ireturn, 1), some (.iload_n 1, 1), some (.iload_n 2, 1), some (.if_icmp .le 7, 3), none, none, some (.iconst 1, 1)], [some (.goto 4, 3), none, none, some (.iconst 0, 1), some (.invokestatic 889, 3), none, none, some (.ireturn, 1), some (.iload_n 1, 1), some (.iload_n 2, 1), some (.iadd, 1), some (.ireturn, 1), some (.iload_n 1, 1), some (.iload_n 2, 1), some (.isub, 1), some (.ireturn, 1)], [some (.iload_n 1, 1), some (.iload_n 2, 1), some (.imul, 1), some (.ireturn, 1), some (.iload_n 2, 1), some (.ifCond .ne 7, 3), none, none, some (.iconst 0, 1), some (.goto 6, 3), none, none, some (.iload_n 1, 1), some (.iload_n 2, 1), some (.idiv, 1), some (.ireturn, 1)], [some (.iload_n 2, 1), some (.ifCond .ne 7, 3), none, none, some (.iconst 0, 1), some (.goto 6, 3), none, none, some (.iload_n 1, 1), some (.iload_n 2, 1), some (.irem, 1), some (.ireturn, 1), some (.iconst 0, 1), some (.ireturn, 1)]]
def s_cd111 : sCode := [[some (.iload_n 0, 1), some (.ifCond .eq 7, 3), none, none, some (.iconst 1, 1), some (.goto 4, 3), none, none, some (.iconst 0, 1), some (.ireturn, 1)]]
def s_cd112 : sCode := [[some (.aload_n 0, 1), some (.invokespecial 0, 3), none, none, some (.aload_n 0, 1), some (.new 4, 3), none, none, some (.dup, 1), some (.bipush 10, 2), none, some (.invokespecial 481, 3), none, none, some (.putstatic 512, 3), none], [none, some (.aload_n 0, 1), some (.bipush 45, 2), none, some (.anewarray 17, 3), none, none, some (.putstatic 513, 3), none, none, some (.aload_n 0, 1), some (.new 0, 3), none, none, some (.dup, 1), some (.invokespecial 8, 3)], [none, none, some (.putstatic 514, 3), none, none, some (.aload_n 0, 1), some (.bipush 31, 2), none, some (.newarray .int, 2), none, some (.putstatic 515, 3), none, none, some (.aload_n 0, 1), some (.iconst (-1), 1), some (.putfield 516, 3)], [none, none, some (.aload_n 0, 1), some (.iconst (-1), 1), some (.putfield 517, 3), none, none, some (.iconst 0, 1), some (.istore_n 1, 1), some (.iload_n 1, 1), some (.aload_n 0, 1), some (.getfield 513, 3), none, none, some (.arraylength, 1), some (.if_icmp .ge 22, 3)], [none, none, some (.aload_n 0, 1), some (.getfield 513, 3), none, none, some (.iload_n 1, 1), some (.new 0, 3), none, none, some (.dup, 1), some (.invokespecial 8, 3), none, none, some (.aastore, 1), some (.iinc 1 1, 3)], [none, none, some (.goto (-25), 3), none, none, some (.aload_n 0, 1), some (.getfield 514, 3), none, none, some (.invokevirtual 48, 3), none, none, some (.return_, 1)]]
def s_cd113 : sCode := [[some (.aload_n 0, 1), some (.getfield 512, 3), none, none, some (.iload_n 3, 1), some (.putfield 257, 3), none, none, some (.aload_n 0, 1), some (.getfield 512, 3), none, none, some (.iload 4, 2), none, some (.putfield 258, 3), none], [none, some (.iconst 0, 1), some (.istore 5, 2), none, some (.iload 5, 2), none, some (.bipush 45, 2), none, some (.if_icmp .ge 80, 3), none, none, some (.aload_n 1, 1), some (.iload 5, 2), none, some (.bipush 15, 2), none], [some (.idiv, 1), some (.iload_n 2, 1), some (.invokevirtual 1042, 3), none, none, some (.istore 6, 2), none, some (.aload_n 0, 1), some (.iload 5, 2), none, some (.invokevirtual 921, 3), none, none, some (.astore 7, 2), none, some (.aload 7, 2)], [none, some (.invokevirtual 40, 3), none, none, some (.iconst 0, 1), some (.istore 8, 2), none, some (.iload 8, 2), none, some (.bipush 125, 2), none, some (.if_icmp .ge 39, 3), none, none, some (.iload 8, 2), none], [some (.iload 6, 2), none, some (.invokestatic 34, 3), none, none, some (.iload 5, 2), none, some (.iconst 5, 1), some (.idiv, 1), some (.iconst 3, 1), some (.irem, 1), some (.iload 5, 2), none, some (.iconst 5, 1), some (.irem, 1), some (.invokestatic 915, 3)], [none, none, some (.ifCond .eq 10, 3), none, none, some (.aload 7, 2), none, some (.iload 8, 2), none, some (.invokevirtual 57, 3), none, none, some (.iinc 8 1, 3), none, none, some (.goto (-40), 3)], [none, none, some (.iinc 5 1, 3), none, none, some (.goto (-81), 3), none, none, some (.return_, 1)]]
def s_cd114 : sCode := [[some (.iload_n 1, 1), some (.ifCond .ne 14, 3), none, none, some (.iload_n 0, 1), some (.iload_n 2, 1), some (.if_icmp .ge 7, 3), none, none, some (.iconst 1, 1), some (.goto 4, 3), none, none, some (.iconst 0, 1), some (.ireturn, 1), some (.iload_n 1, 1)], [some (.iconst 1, 1), some (.if_icmp .ne 16, 3), none, none, some (.iload_n 0, 1), some (.iload_n 2, 1), some (.if_icmp .ne 7, 3), none, none, some (.iconst 1, 1), some (.goto 17, 3), none, none, some (.iconst 0, 1), some (.goto 13, 3), none], [none, some (.iload_n 0, 1), some (.iload_n 2, 1), some (.if_icmp .le 7, 3), none, none, some (.iconst 1, 1), some (.goto 4, 3), none, none, some (.iconst 0, 1), some (.ireturn, 1)]]
def s_cd115 : sCode := [[some (.iload_n 1, 1), some (.ifCond .lt 21, 3), none, none, some (.iload_n 1, 1), some (.aload_n 0, 1), some (.getfield 513, 3), none, none, some (.arraylength, 1), some (.if_icmp .ge 12, 3), none, none, some (.aload_n 0, 1), some (.getfield 513, 3), none], [none, some (.iload_n 1, 1), some (.aaload, 1), some (.ifnonnull 8, 3), none, none, some (.aload_n 0, 1), some (.getfield 514, 3), none, none, some (.areturn, 1), some (.aload_n 0, 1), some (.getfield 513, 3), none, none, some (.iload_n 1, 1)], [some (.aaload, 1), some (.areturn, 1)]]
def s_cd116 : sCode := [[some (.aload_n 0, 1), some (.iconst (-1), 1), some (.putfield 516, 3), none, none, some (.aload_n 0, 1), some (.iconst (-1), 1), some (.putfield 517, 3), none, none, some (.aload_n 0, 1), some (.invokevirtual 944, 3), none, none, some (.return_, 1)]]
def s_cd117 : sCode := [[some (.aload_n 0, 1), some (.getfield 517, 3), none, none, some (.ifCond .ge 25, 3), none, none, some (.aload_n 0, 1), some (.getfield 516, 3), none, none, some (.bipush 44, 2), none, some (.if_icmp .ge 16, 3), none, none], [some (.aload_n 0, 1), some (.dup, 1), some (.getfield 516, 3), none, none, some (.iconst 1, 1), some (.iadd, 1), some (.putfield 516, 3), none, none, some (.goto 65, 3), none, none, some (.aload_n 0, 1), some (.getfield 517, 3), none], [none, some (.ifCond .ge 16, 3), none, none, some (.aload_n 0, 1), some (.iconst 0, 1), some (.putfield 516, 3), none, none, some (.aload_n 0, 1), some (.iconst 1, 1), some (.putfield 517, 3), none, none, some (.goto 45, 3), none], [none, some (.aload_n 0, 1), some (.getfield 517, 3), none, none, some (.bipush 44, 2), none, some (.if_icmp .ge 16, 3), none, none, some (.aload_n 0, 1), some (.dup, 1), some (.getfield 517, 3), none, none, some (.iconst 1, 1)], [some (.iadd, 1), some (.putfield 517, 3), none, none, some (.goto 23, 3), none, none, some (.aload_n 0, 1), some (.dup, 1), some (.getfield 516, 3), none, none, some (.iconst 1, 1), some (.iadd, 1), some (.putfield 516, 3), none], [none, some (.aload_n 0, 1), some (.aload_n 0, 1), some (.getfield 516, 3), none, none, some (.iconst 1, 1), some (.iadd, 1), some (.putfield 517, 3), none, none, some (.aload_n 0, 1), some (.invokevirtual 944, 3), none, none, some (.return_, 1)]]
def s_cd118 : sCode := [[some (.aload_n 0, 1), some (.getfield 512, 3), none, none, some (.getfield 261, 3), none, none, some (.aload_n 0, 1), some (.aload_n 0, 1), some (.getfield 516, 3), none, none, some (.invokevirtual 921, 3), none, none, some (.aload_n 0, 1)], [some (.aload_n 0, 1), some (.getfield 517, 3), none, none, some (.invokevirtual 921, 3), none, none, some (.invokevirtual 74, 3), none, none, some (.return_, 1)]]
def s_cd119 : sCode := [[some (.bipush 100, 2), none, some (.aload_n 0, 1), some (.getfield 516, 3), none, none, some (.iconst 1, 1), some (.iadd, 1), some (.imul, 1), some (.aload_n 0, 1), some (.getfield 517, 3), none, none, some (.iadd, 1), some (.iconst 1, 1), some (.iadd, 1)], [some (.ireturn, 1)]]
def s_cd120 : sCode := [[some (.iconst 0, 1), some (.istore_n 3, 1), some (.iload_n 3, 1), some (.aload_n 1, 1), some (.invokevirtual 752, 3), none, none, some (.if_icmp .ge 53, 3), none, none, some (.iload_n 3, 1), some (.aload_n 0, 1), some (.getfield 515, 3), none, none, some (.arraylength, 1)], [some (.if_icmp .ge 44, 3), none, none, some (.aload_n 2, 1), some (.aload_n 1, 1), some (.iload_n 3, 1), some (.invokevirtual 777, 3), none, none, some (.aload_n 2, 1), some (.getfield 194, 3), none, none, some (.invokevirtual 418, 3), none, none], [some (.astore 4, 2), none, some (.aload_n 0, 1), some (.getfield 515, 3), none, none, some (.iload_n 3, 1), some (.aload 4, 2), none, some (.ifnonnull 7, 3), none, none, some (.iconst (-1), 1), some (.goto 8, 3), none, none], [some (.aload 4, 2), none, some (.getfield 256, 3), none, none, some (.iastore, 1), some (.iinc 3 1, 3), none, none, some (.goto (-55), 3), none, none, some (.aload_n 0, 1), some (.invokevirtual 928, 3), none, none], [some (.iconst 0, 1), some (.istore_n 3, 1), some (.iload_n 3, 1), some (.sipush 1036, 3), none, none, some (.if_icmp .ge 27, 3), none, none, some (.aload_n 0, 1), some (.aload_n 1, 1), some (.aload_n 2, 1), some (.invokevirtual 970, 3), none, none, some (.ifCond .eq 8, 3)], [none, none, some (.aload_n 0, 1), some (.invokevirtual 952, 3), none, none, some (.ireturn, 1), some (.aload_n 0, 1), some (.invokevirtual 936, 3), none, none, some (.iinc 3 1, 3), none, none, some (.goto (-28), 3), none], [none, some (.bipush (-2), 2), none, some (.ireturn, 1)]]
def s_cd121 : sCode := [[some (.iconst 0, 1), some (.istore_n 3, 1), some (.iload_n 3, 1), some (.aload_n 1, 1), some (.invokevirtual 752, 3), none, none, some (.if_icmp .ge 82, 3), none, none, some (.iload_n 3, 1), some (.aload_n 0, 1), some (.getfield 515, 3), none, none, some (.arraylength, 1)], [some (.if_icmp .ge 73, 3), none, none, some (.aload_n 0, 1), some (.getfield 515, 3), none, none, some (.iload_n 3, 1), some (.iaload, 1), some (.ifCond .ge 7, 3), none, none, some (.aconst_null, 1), some (.goto 13, 3), none, none], [some (.aload_n 2, 1), some (.aload_n 0, 1), some (.getfield 515, 3), none, none, some (.iload_n 3, 1), some (.iaload, 1), some (.invokevirtual 329, 3), none, none, some (.astore 4, 2), none, some (.aload_n 0, 1), some (.aload_n 1, 1), some (.iload_n 3, 1), some (.invokevirtual 777, 3)], [none, none, some (.aload 4, 2), none, some (.aload_n 2, 1), some (.getfield 194, 3), none, none, some (.invokevirtual 979, 3), none, none, some (.ifCond .eq 9, 3), none, none, some (.aload_n 0, 1), some (.getfield 512, 3)], [none, none, some (.astore 4, 2), none, some (.aload_n 1, 1), some (.iload_n 3, 1), some (.invokevirtual 785, 3), none, none, some (.aload 4, 2), none, some (.invokestatic 433, 3), none, none, some (.if_icmp .eq 5, 3), none], [none, some (.iconst 0, 1), some (.ireturn, 1), some (.iinc 3 1, 3), none, none, some (.goto (-84), 3), none, none, some (.iconst 1, 1), some (.ireturn, 1)]]
def s_cd122 : sCode := [[some (.aload_n 0, 1), some (.getfield 512, 3), none, none, some (.getfield 261, 3), none, none, some (.iload_n 1, 1), some (.invokevirtual 65, 3), none, none, some (.ifCond .eq 23, 3), none, none, some (.aload_n 2, 1), some (.ifnull 15, 3)], [none, none, some (.aload_n 0, 1), some (.getfield 512, 3), none, none, some (.aload_n 2, 1), some (.iload_n 3, 1), some (.invokevirtual 498, 3), none, none, some (.ifCond .eq 7, 3), none, none, some (.iconst 1, 1), some (.goto 4, 3)], [none, none, some (.iconst 0, 1), some (.ireturn, 1)]]
def s_cd123 : sCode := [[some (.iconst 0, 1), some (.istore_n 3, 1), some (.iload_n 3, 1), some (.aload_n 1, 1), some (.invokevirtual 752, 3), none, none, some (.if_icmp .ge 52, 3), none, none, some (.aload_n 1, 1), some (.iload_n 3, 1), some (.invokevirtual 761, 3), none, none, some (.ifCond .ne 5, 3)], [none, none, some (.aconst_null, 1), some (.areturn, 1), some (.aload_n 2, 1), some (.aload_n 1, 1), some (.iload_n 3, 1), some (.invokevirtual 777, 3), none, none, some (.aload_n 2, 1), some (.getfield 194, 3), none, none, some (.invokevirtual 418, 3), none], [none, some (.astore 4, 2), none, some (.aload_n 0, 1), some (.aload_n 1, 1), some (.iload_n 3, 1), some (.aload 4, 2), none, some (.aload_n 2, 1), some (.getfield 194, 3), none, none, some (.invokevirtual 996, 3), none, none, some (.ifCond .eq 6, 3)], [none, none, some (.aload 4, 2), none, some (.areturn, 1), some (.iinc 3 1, 3), none, none, some (.goto (-54), 3), none, none, some (.aconst_null, 1), some (.areturn, 1)]]
def s_cd124 : sCode := [[some (.aload_n 1, 1), some (.iload_n 2, 1), some (.invokevirtual 785, 3), none, none, some (.istore 5, 2), none, some (.iload 5, 2), none, some (.aload_n 3, 1), some (.invokestatic 433, 3), none, none, some (.if_icmp .ne 5, 3), none, none], [some (.iconst 0, 1), some (.ireturn, 1), some (.iload 5, 2), none, some (.aload_n 0, 1), some (.getfield 512, 3), none, none, some (.getfield 258, 3), none, none, some (.if_icmp .ne 18, 3), none, none, some (.aload_n 0, 1), some (.aload_n 1, 1)], [some (.iload_n 2, 1), some (.invokevirtual 777, 3), none, none, some (.aload_n 3, 1), some (.iload 4, 2), none, some (.invokevirtual 1003, 3), none, none, some (.ifCond .ne 7, 3), none, none, some (.iconst 1, 1), some (.goto 4, 3), none], [none, some (.iconst 0, 1), some (.ireturn, 1)]]
def s_cd125 : sCode := [[some (.aload_n 0, 1), some (.invokevirtual 928, 3), none, none, some (.iconst 0, 1), some (.istore 4, 2), none, some (.iload 4, 2), none, some (.sipush 1036, 3), none, none, some (.if_icmp .ge 25, 3), none, none, some (.aload_n 0, 1)], [some (.iload_n 1, 1), some (.aload_n 2, 1), some (.iload_n 3, 1), some (.invokevirtual 979, 3), none, none, some (.ifCond .eq 5, 3), none, none, some (.iconst 1, 1), some (.ireturn, 1), some (.aload_n 0, 1), some (.invokevirtual 936, 3), none, none, some (.iinc 4 1, 3)], [none, none, some (.goto (-27), 3), none, none, some (.iconst 0, 1), some (.ireturn, 1)]]
def s_cd126 : sCode := [[some (.aload_n 0, 1), some (.invokespecial 0, 3), none, none, some (.aload_n 0, 1), some (.iconst 3, 1), some (.newarray .int, 2), none, some (.putstatic 576, 3), none, none, some (.aload_n 0, 1), some (.iconst 3, 1), some (.newarray .int, 2), none, some (.putstatic 577, 3)], [none, none, some (.aload_n 0, 1), some (.iconst 3, 1), some (.newarray .int, 2), none, some (.putstatic 578, 3), none, none, some (.aload_n 0, 1), some (.iconst 3, 1), some (.newarray .int, 2), none, some (.putstatic 579, 3), none, none], [some (.iconst 0, 1), some (.istore_n 1, 1), some (.iload_n 1, 1), some (.iconst 3, 1), some (.if_icmp .ge 16, 3), none, none, some (.aload_n 0, 1), some (.getfield 576, 3), none, none, some (.iload_n 1, 1), some (.iconst (-1), 1), some (.iastore, 1), some (.iinc 1 1, 3), none], [none, some (.goto (-15), 3), none, none, some (.return_, 1)]]
def s_cd127 : sCode := [[some (.iload_n 1, 1), some (.ifCond .lt 22, 3), none, none, some (.iload_n 1, 1), some (.iconst 3, 1), some (.if_icmp .ge 17, 3), none, none, some (.aload_n 0, 1), some (.getfield 576, 3), none, none, some (.iload_n 1, 1), some (.iload_n 2, 1), some (.iastore, 1)], [some (.aload_n 0, 1), some (.getfield 577, 3), none, none, some (.iload_n 1, 1), some (.iload_n 3, 1), some (.iastore, 1), some (.return_, 1)]]
def s_cd128 : sCode := [[some (.iload_n 1, 1), some (.ifCond .lt 17, 3), none, none, some (.iload_n 1, 1), some (.iconst 3, 1), some (.if_icmp .ge 12, 3), none, none, some (.aload_n 0, 1), some (.getfield 576, 3), none, none, some (.iload_n 1, 1), some (.iaload, 1), some (.goto 4, 3)], [none, none, some (.iconst (-1), 1), some (.ireturn, 1)]]
def s_cd129 : sCode := [[some (.iload_n 1, 1), some (.ifCond .lt 17, 3), none, none, some (.iload_n 1, 1), some (.iconst 3, 1), some (.if_icmp .ge 12, 3), none, none, some (.aload_n 0, 1), some (.getfield 577, 3), none, none, some (.iload_n 1, 1), some (.iaload, 1), some (.goto 4, 3)], [none, none, some (.iconst 0, 1), some (.ireturn, 1)]]
def s_cd130 : sCode := [[some (.aload_n 0, 1), some (.iload_n 1, 1), some (.invokevirtual 1025, 3), none, none, some (.ifCond .lt 12, 3), none, none, some (.aload_n 0, 1), some (.iload_n 1, 1), some (.invokevirtual 1033, 3), none, none, some (.iload_n 2, 1), some (.if_icmp .le 7, 3), none], [none, some (.iload_n 1, 1), some (.goto 8, 3), none, none, some (.aload_n 0, 1), some (.iload_n 1, 1), some (.invokevirtual 1025, 3), none, none, some (.ireturn, 1)]]
def s_cd131 : sCode := [[some (.aload_n 0, 1), some (.getfield 576, 3), none, none, some (.iconst 0, 1), some (.aload_n 0, 1), some (.getfield 578, 3), none, none, some (.iconst 0, 1), some (.iconst 3, 1), some (.invokedynamic 0, 3), none, none, some (.aload_n 0, 1), some (.getfield 577, 3)], [none, none, some (.iconst 0, 1), some (.aload_n 0, 1), some (.getfield 579, 3), none, none, some (.iconst 0, 1), some (.iconst 3, 1), some (.invokedynamic 0, 3), none, none, some (.return_, 1)]]
def s_cd132 : sCode := [[some (.aload_n 0, 1), some (.getfield 578, 3), none, none, some (.iconst 0, 1), some (.aload_n 0, 1), some (.getfield 576, 3), none, none, some (.iconst 0, 1), some (.iconst 3, 1), some (.invokedynamic 0, 3), none, none, some (.aload_n 0, 1), some (.getfield 579, 3)], [none, none, some (.iconst 0, 1), some (.aload_n 0, 1), some (.getfield 577, 3), none, none, some (.iconst 0, 1), some (.iconst 3, 1), some (.invokedynamic 0, 3), none, none, some (.return_, 1)]]
def s_cd133 : sCode := [[some (.aload_n 0, 1), some (.invokespecial 0, 3), none, none, some (.aload_n 0, 1), some (.bipush 60, 2), none, some (.newarray .int, 2), none, some (.putstatic 640, 3), none, none, some (.aload_n 0, 1), some (.iconst 0, 1), some (.putfield 641, 3), none], [none, some (.aload_n 0, 1), some (.iconst 3, 1), some (.newarray .int, 2), none, some (.putstatic 642, 3), none, none, some (.aload_n 0, 1), some (.new 5, 3), none, none, some (.dup, 1), some (.invokespecial 536, 3), none, none], [some (.putstatic 643, 3), none, none, some (.aload_n 0, 1), some (.new 3, 3), none, none, some (.dup, 1), some (.invokespecial 312, 3), none, none, some (.putstatic 644, 3), none, none, some (.aload_n 0, 1), some (.new 1, 3)], [none, none, some (.dup, 1), some (.invokespecial 96, 3), none, none, some (.putstatic 645, 3), none, none, some (.aload_n 0, 1), some (.new 8, 3), none, none, some (.dup, 1), some (.invokespecial 896, 3), none], [none, some (.putstatic 646, 3), none, none, some (.aload_n 0, 1), some (.new 2, 3), none, none, some (.dup, 1), some (.invokespecial 192, 3), none, none, some (.putstatic 647, 3), none, none, some (.aload_n 0, 1)], [some (.bipush 6, 2), none, some (.anewarray 19, 3), none, none, some (.putstatic 648, 3), none, none, some (.aload_n 0, 1), some (.new 6, 3), none, none, some (.dup, 1), some (.invokespecial 656, 3), none, none], [some (.putstatic 649, 3), none, none, some (.aload_n 0, 1), some (.new 0, 3), none, none, some (.dup, 1), some (.invokespecial 8, 3), none, none, some (.putstatic 650, 3), none, none, some (.aload_n 0, 1), some (.iconst (-1), 1)], [some (.putfield 651, 3), none, none, some (.iconst 0, 1), some (.istore_n 1, 1), some (.iload_n 1, 1), some (.aload_n 0, 1), some (.getfield 648, 3), none, none, some (.arraylength, 1), some (.if_icmp .ge 22, 3), none, none, some (.aload_n 0, 1), some (.getfield 648, 3)], [none, none, some (.iload_n 1, 1), some (.new 6, 3), none, none, some (.dup, 1), some (.invokespecial 656, 3), none, none, some (.aastore, 1), some (.iinc 1 1, 3), none, none, some (.goto (-25), 3), none], [none, some (.return_, 1)]]
def s_cd134 : sCode := [[some (.iload_n 1, 1), some (.ifCond .lt 10, 3), none, none, some (.iload_n 1, 1), some (.sipush 255, 3), none, none, some (.if_icmp .le 5, 3), none, none, some (.iconst (-1), 1), some (.ireturn, 1), some (.aload_n 0, 1), some (.getfield 641, 3), none], [none, some (.ifCond .lt 15, 3), none, none, some (.aload_n 0, 1), some (.getfield 641, 3), none, none, some (.aload_n 0, 1), some (.getfield 640, 3), none, none, some (.arraylength, 1), some (.if_icmp .lt 6, 3), none, none], [some (.bipush (-3), 2), none, some (.ireturn, 1), some (.aload_n 0, 1), some (.getfield 640, 3), none, none, some (.aload_n 0, 1), some (.getfield 641, 3), none, none, some (.iload_n 1, 1), some (.iastore, 1), some (.aload_n 0, 1), some (.dup, 1), some (.getfield 641, 3)], [none, none, some (.iconst 1, 1), some (.iadd, 1), some (.putfield 641, 3), none, none, some (.aload_n 0, 1), some (.getfield 641, 3), none, none, some (.ireturn, 1)]]
def s_cd135 : sCode := [[some (.iload_n 1, 1), some (.invokestatic 1353, 3), none, none, some (.ifCond .eq 10, 3), none, none, some (.iload_n 2, 1), some (.invokestatic 1361, 3), none, none, some (.ifCond .ne 5, 3), none, none, some (.iconst (-1), 1), some (.ireturn, 1)], [some (.aload_n 0, 1), some (.getfield 644, 3), none, none, some (.getfield 193, 3), none, none, some (.bipush 10, 2), none, some (.if_icmp .lt 6, 3), none, none, some (.bipush (-3), 2), none, some (.ireturn, 1), some (.aload_n 0, 1)], [some (.getfield 643, 3), none, none, some (.aload_n 0, 1), some (.getfield 640, 3), none, none, some (.aload_n 0, 1), some (.getfield 641, 3), none, none, some (.invokevirtual 546, 3), none, none, some (.istore_n 3, 1), some (.aload_n 0, 1)], [some (.iconst 0, 1), some (.putfield 641, 3), none, none, some (.iload_n 3, 1), some (.iconst (-1), 1), some (.if_icmp .eq 8, 3), none, none, some (.bipush (-100), 2), none, some (.iload_n 3, 1), some (.isub, 1), some (.ireturn, 1), some (.aload_n 0, 1), some (.getfield 644, 3)], [none, none, some (.iload_n 1, 1), some (.iload_n 2, 1), some (.iconst (-1), 1), some (.aload_n 0, 1), some (.getfield 643, 3), none, none, some (.getfield 320, 3), none, none, some (.invokevirtual 348, 3), none, none, some (.ireturn, 1)]]
def s_cd136 : sCode := [[some (.iload_n 1, 1), some (.invokestatic 1401, 3), none, none, some (.ifCond .eq 14, 3), none, none, some (.iload_n 3, 1), some (.iconst 1, 1), some (.if_icmp .lt 9, 3), none, none, some (.iload_n 3, 1), some (.bipush 10, 2), none, some (.if_icmp .le 5, 3)], [none, none, some (.iconst (-1), 1), some (.ireturn, 1), some (.aload_n 0, 1), some (.iload_n 1, 1), some (.invokevirtual 1409, 3), none, none, some (.astore 4, 2), none, some (.aload 4, 2), none, some (.invokevirtual 672, 3), none, none], [some (.ifCond .eq 5, 3), none, none, some (.iconst 0, 1), some (.ireturn, 1), some (.aload 4, 2), none, some (.getfield 384, 3), none, none, some (.ifCond .eq 6, 3), none, none, some (.bipush (-12), 2), none, some (.ireturn, 1)], [some (.iload_n 2, 1), some (.ifCond .ge 5, 3), none, none, some (.iconst 0, 1), some (.ireturn, 1), some (.iconst 0, 1), some (.istore 5, 2), none, some (.iload 5, 2), none, some (.iload_n 3, 1), some (.if_icmp .ge 25, 3), none, none, some (.aload_n 0, 1)], [some (.aload 4, 2), none, some (.iload_n 2, 1), some (.bipush 6, 2), none, some (.iload 5, 2), none, some (.imul, 1), some (.iadd, 1), some (.invokevirtual 1098, 3), none, none, some (.ifCond .eq 9, 3), none, none, some (.iinc 5 1, 3)], [none, none, some (.goto (-25), 3), none, none, some (.iload 5, 2), none, some (.ireturn, 1)]]
def s_cd137 : sCode := [[some (.iload_n 2, 1), some (.aload_n 1, 1), some (.getfield 386, 3), none, none, some (.bipush 6, 2), none, some (.isub, 1), some (.if_icmp .gt 15, 3), none, none, some (.aload_n 0, 1), some (.getfield 644, 3), none, none, some (.getfield 193, 3)], [none, none, some (.bipush 10, 2), none, some (.if_icmp .lt 5, 3), none, none, some (.iconst 0, 1), some (.ireturn, 1), some (.aload_n 1, 1), some (.iload_n 2, 1), some (.invokevirtual 721, 3), none, none, some (.l2i, 1), some (.istore_n 3, 1)], [some (.aload_n 1, 1), some (.iload_n 2, 1), some (.iconst 1, 1), some (.iadd, 1), some (.invokevirtual 721, 3), none, none, some (.l2i, 1), some (.istore 4, 2), none, some (.aload_n 1, 1), some (.iload_n 2, 1), some (.iconst 2, 1), some (.iadd, 1), some (.invokevirtual 721, 3), none], [none, some (.l2i, 1), some (.istore 5, 2), none, some (.aload_n 1, 1), some (.iload_n 2, 1), some (.iconst 3, 1), some (.iadd, 1), some (.invokevirtual 721, 3), none, none, some (.l2i, 1), some (.istore 6, 2), none, some (.aload_n 1, 1), some (.iload_n 2, 1)], [some (.iconst 4, 1), some (.iadd, 1), some (.invokevirtual 721, 3), none, none, some (.l2i, 1), some (.istore 7, 2), none, some (.aload_n 1, 1), some (.iload_n 2, 1), some (.iconst 5, 1), some (.iadd, 1), some (.invokevirtual 721, 3), none, none, some (.l2i, 1)], [some (.istore 8, 2), none, some (.iload_n 3, 1), some (.invokestatic 1353, 3), none, none, some (.ifCond .eq 27, 3), none, none, some (.iload 4, 2), none, some (.invokestatic 1361, 3), none, none, some (.ifCond .eq 19, 3), none], [none, some (.iload 5, 2), none, some (.invokestatic 1369, 3), none, none, some (.ifCond .eq 11, 3), none, none, some (.iload 6, 2), none, some (.invokestatic 1377, 3), none, none, some (.ifCond .ne 5, 3), none], [none, some (.iconst 0, 1), some (.ireturn, 1), some (.iload 7, 2), none, some (.ifCond .lt 21, 3), none, none, some (.iload 7, 2), none, some (.iconst 2, 1), some (.if_icmp .gt 15, 3), none, none, some (.iload 8, 2), none], [some (.ifCond .lt 10, 3), none, none, some (.iload 8, 2), none, some (.bipush 9, 2), none, some (.if_icmp .le 5, 3), none, none, some (.iconst 0, 1), some (.ireturn, 1), some (.aload_n 0, 1), some (.getfield 642, 3), none, none], [some (.iconst 0, 1), some (.bipush 120, 2), none, some (.iload 6, 2), none, some (.iadd, 1), some (.iastore, 1), some (.aload_n 0, 1), some (.getfield 642, 3), none, none, some (.iconst 1, 1), some (.bipush 60, 2), none, some (.iload 7, 2), none], [some (.iadd, 1), some (.iastore, 1), some (.aload_n 0, 1), some (.getfield 642, 3), none, none, some (.iconst 2, 1), some (.bipush 48, 2), none, some (.iload 8, 2), none, some (.iadd, 1), some (.iastore, 1), some (.aload_n 0, 1), some (.getfield 643, 3), none], [none, some (.aload_n 0, 1), some (.getfield 642, 3), none, none, some (.aload_n 0, 1), some (.getfield 642, 3), none, none, some (.arraylength, 1), some (.invokevirtual 546, 3), none, none, some (.iconst (-1), 1), some (.if_icmp .ne 29, 3), none], [none, some (.aload_n 0, 1), some (.getfield 644, 3), none, none, some (.iload_n 3, 1), some (.iload 4, 2), none, some (.iload 5, 2), none, some (.aload_n 0, 1), some (.getfield 643, 3), none, none, some (.getfield 320, 3), none], [none, some (.invokevirtual 348, 3), none, none, some (.ifCond .lt 7, 3), none, none, some (.iconst 1, 1), some (.goto 4, 3), none, none, some (.iconst 0, 1), some (.ireturn, 1)]]
def s_cd138 : sCode := [[some (.aload_n 0, 1), some (.iload_n 1, 1), some (.iload_n 2, 1), some (.iload_n 3, 1), some (.invokevirtual 1115, 3), none, none, some (.ifCond .ne 6, 3), none, none, some (.ldc 2294967296, 2), none, some (.ireturn, 1), some (.aload_n 0, 1), some (.getfield 644, 3), none], [none, some (.iload_n 1, 1), some (.iload_n 2, 1), some (.invokevirtual 354, 3), none, none, some (.istore 4, 2), none, some (.iload 4, 2), none, some (.iload_n 3, 1), some (.if_icmp .eq 25, 3), none, none, some (.aload_n 0, 1), some (.getfield 645, 3)], [none, none, some (.iload_n 1, 1), some (.iload_n 2, 1), some (.iload 4, 2), none, some (.iload_n 3, 1), some (.invokevirtual 108, 3), none, none, some (.aload_n 0, 1), some (.getfield 644, 3), none, none, some (.iload_n 1, 1), some (.iload_n 2, 1)], [some (.iload_n 3, 1), some (.invokevirtual 363, 3), none, none, some (.iload 4, 2), none, some (.ireturn, 1)]]
def s_cd139 : sCode := [[some (.iload_n 2, 1), some (.tableswitch 141 0 4 #[35, 59, 83, 107, 124], 35), none, none, none, none, none, none, none, none, none, none, none, none, none, none], [none, none, none, none, none, none, none, none, none, none, none, none, none, none, none, none], [none, none, none, none, some (.aload_n 0, 1), some (.getfield 644, 3), none, none, some (.iload_n 1, 1), some (.invokevirtual 321, 3), none, none, some (.ifCond .eq 14, 3), none, none, some (.iload_n 3, 1)], [some (.invokestatic 1353, 3), none, none, some (.ifCond .eq 7, 3), none, none, some (.iconst 1, 1), some (.goto 4, 3), none, none, some (.iconst 0, 1), some (.ireturn, 1), some (.aload_n 0, 1), some (.getfield 644, 3), none, none], [some (.iload_n 1, 1), some (.invokevirtual 321, 3), none, none, some (.ifCond .eq 14, 3), none, none, some (.iload_n 3, 1), some (.invokestatic 1361, 3), none, none, some (.ifCond .eq 7, 3), none, none, some (.iconst 1, 1), some (.goto 4, 3)], [none, none, some (.iconst 0, 1), some (.ireturn, 1), some (.aload_n 0, 1), some (.getfield 644, 3), none, none, some (.iload_n 1, 1), some (.invokevirtual 321, 3), none, none, some (.ifCond .eq 14, 3), none, none, some (.iload_n 3, 1)], [some (.invokestatic 1369, 3), none, none, some (.ifCond .eq 7, 3), none, none, some (.iconst 1, 1), some (.goto 4, 3), none, none, some (.iconst 0, 1), some (.ireturn, 1), some (.iload_n 1, 1), some (.ifCond .ne 14, 3), none, none], [some (.iload_n 3, 1), some (.invokestatic 1385, 3), none, none, some (.ifCond .eq 7, 3), none, none, some (.iconst 1, 1), some (.goto 4, 3), none, none, some (.iconst 0, 1), some (.ireturn, 1), some (.iload_n 1, 1), some (.ifCond .ne 14, 3), none], [none, some (.iload_n 3, 1), some (.invokestatic 1353, 3), none, none, some (.ifCond .eq 7, 3), none, none, some (.iconst 1, 1), some (.goto 4, 3), none, none, some (.iconst 0, 1), some (.ireturn, 1), some (.iconst 0, 1), some (.ireturn, 1)]]
def s_cd140 : sCode := [[some (.iload_n 1, 1), some (.invokestatic 1377, 3), none, none, some (.ifCond .ne 5, 3), none, none, some (.iconst (-1), 1), some (.ireturn, 1), some (.iload_n 2, 1), some (.iconst (-1), 1), some (.if_icmp .ne 18, 3), none, none, some (.aload_n 0, 1), some (.getfield 644, 3)], [none, none, some (.getfield 192, 3), none, none, some (.iload_n 1, 1), some (.iconst (-1), 1), some (.iconst 0, 1), some (.invokevirtual 1019, 3), none, none, some (.iconst 1, 1), some (.ireturn, 1), some (.iload_n 2, 1), some (.invokestatic 1377, 3), none], [none, some (.ifCond .eq 15, 3), none, none, some (.iload_n 2, 1), some (.iload_n 1, 1), some (.if_icmp .eq 10, 3), none, none, some (.iload_n 3, 1), some (.invokestatic 1353, 3), none, none, some (.ifCond .ne 5, 3), none, none], [some (.iconst (-1), 1), some (.ireturn, 1), some (.aload_n 0, 1), some (.getfield 644, 3), none, none, some (.getfield 192, 3), none, none, some (.iload_n 1, 1), some (.iload_n 2, 1), some (.iload_n 3, 1), some (.invokevirtual 1019, 3), none, none, some (.iconst 1, 1)], [some (.ireturn, 1)]]
def s_cd141 : sCode := [[some (.iload_n 2, 1), some (.ifCond .lt 31, 3), none, none, some (.iload_n 2, 1), some (.iconst 5, 1), some (.if_icmp .gt 26, 3), none, none, some (.aload_n 0, 1), some (.getfield 644, 3), none, none, some (.iload_n 1, 1), some (.invokevirtual 321, 3), none], [none, some (.ifCond .eq 12, 3), none, none, some (.aload_n 0, 1), some (.iload_n 1, 1), some (.iload_n 2, 1), some (.invokevirtual 1138, 3), none, none, some (.goto 5, 3), none, none, some (.ldc 2294967296, 2), none, some (.ireturn, 1)], [some (.iload_n 2, 1), some (.bipush 10, 2), none, some (.if_icmp .ne 29, 3), none, none, some (.iload_n 1, 1), some (.invokestatic 1377, 3), none, none, some (.ifCond .eq 22, 3), none, none, some (.aload_n 0, 1), some (.getfield 644, 3), none], [none, some (.getfield 192, 3), none, none, some (.iload_n 1, 1), some (.aload_n 0, 1), some (.getfield 644, 3), none, none, some (.getfield 195, 3), none, none, some (.invokevirtual 1042, 3), none, none, some (.ireturn, 1)], [some (.iload_n 2, 1), some (.bipush 20, 2), none, some (.if_icmp .ne 15, 3), none, none, some (.iload_n 1, 1), some (.ifCond .ne 11, 3), none, none, some (.aload_n 0, 1), some (.getfield 644, 3), none, none, some (.getfield 194, 3), none], [none, some (.ireturn, 1), some (.iload_n 2, 1), some (.bipush 21, 2), none, some (.if_icmp .ne 17, 3), none, none, some (.iload_n 1, 1), some (.ifCond .ne 13, 3), none, none, some (.aload_n 0, 1), some (.getfield 644, 3), none, none], [some (.getfield 195, 3), none, none, some (.goto 5, 3), none, none, some (.ldc 2294967296, 2), none, some (.ireturn, 1)]]
def s_cd142 : sCode := [[some (.iload_n 2, 1), some (.iconst 2, 1), some (.if_icmp .gt 13, 3), none, none, some (.aload_n 0, 1), some (.getfield 644, 3), none, none, some (.iload_n 1, 1), some (.iload_n 2, 1), some (.invokevirtual 354, 3), none, none, some (.ireturn, 1), some (.iload_n 2, 1)], [some (.iconst 3, 1), some (.if_icmp .ne 20, 3), none, none, some (.aload_n 0, 1), some (.getfield 644, 3), none, none, some (.iload_n 1, 1), some (.invokevirtual 369, 3), none, none, some (.ifCond .eq 7, 3), none, none, some (.iconst 1, 1)], [some (.goto 4, 3), none, none, some (.iconst 0, 1), some (.ireturn, 1), some (.aload_n 0, 1), some (.getfield 644, 3), none, none, some (.invokevirtual 384, 3), none, none, some (.iload_n 2, 1), some (.iconst 4, 1), some (.if_icmp .ne 20, 3), none], [none, some (.aload_n 0, 1), some (.getfield 644, 3), none, none, some (.iload_n 1, 1), some (.invokevirtual 409, 3), none, none, some (.ifCond .eq 7, 3), none, none, some (.iconst 1, 1), some (.goto 4, 3), none, none], [some (.iconst 0, 1), some (.ireturn, 1), some (.aload_n 0, 1), some (.getfield 644, 3), none, none, some (.iload_n 1, 1), some (.invokevirtual 329, 3), none, none, some (.getfield 261, 3), none, none, some (.invokevirtual 80, 3), none, none], [some (.ireturn, 1)]]
def s_cd143 : sCode := [[some (.iload_n 2, 1), some (.invokestatic 17, 3), none, none, some (.istore_n 3, 1), some (.aload_n 0, 1), some (.getfield 644, 3), none, none, some (.iload_n 1, 1), some (.invokevirtual 321, 3), none, none, some (.ifCond .eq 7, 3), none, none], [some (.iload_n 3, 1), some (.ifCond .ge 5, 3), none, none, some (.iconst (-1), 1), some (.ireturn, 1), some (.aload_n 0, 1), some (.getfield 644, 3), none, none, some (.invokevirtual 384, 3), none, none, some (.aload_n 0, 1), some (.getfield 644, 3), none], [none, some (.iload_n 1, 1), some (.invokevirtual 329, 3), none, none, some (.getfield 261, 3), none, none, some (.iload_n 3, 1), some (.invokevirtual 65, 3), none, none, some (.ifCond .eq 7, 3), none, none, some (.iconst 1, 1)], [some (.goto 4, 3), none, none, some (.iconst 0, 1), some (.ireturn, 1)]]
def s_cd144 : sCode := [[some (.iload_n 1, 1), some (.invokestatic 17, 3), none, none, some (.istore_n 3, 1), some (.iload_n 3, 1), some (.ifCond .lt 12, 3), none, none, some (.iload_n 2, 1), some (.ifCond .lt 8, 3), none, none, some (.iload_n 2, 1), some (.iconst 2, 1), some (.if_icmp .le 5, 3)], [none, none, some (.iconst (-1), 1), some (.ireturn, 1), some (.aload_n 0, 1), some (.getfield 644, 3), none, none, some (.invokevirtual 384, 3), none, none, some (.aload_n 0, 1), some (.getfield 644, 3), none, none, some (.iload_n 3, 1)], [some (.aload_n 0, 1), some (.getfield 644, 3), none, none, some (.getfield 194, 3), none, none, some (.invokevirtual 418, 3), none, none, some (.astore 4, 2), none, some (.aload 4, 2), none, some (.ifnonnull 6, 3), none], [none, some (.bipush (-2), 2), none, some (.ireturn, 1), some (.iload_n 2, 1), some (.ifCond .ne 9, 3), none, none, some (.aload 4, 2), none, some (.getfield 258, 3), none, none, some (.ireturn, 1), some (.iload_n 2, 1), some (.iconst 1, 1)], [some (.if_icmp .ne 11, 3), none, none, some (.aload 4, 2), none, some (.getfield 256, 3), none, none, some (.goto 13, 3), none, none, some (.aload_n 0, 1), some (.getfield 644, 3), none, none, some (.aload 4, 2)], [none, some (.iload_n 3, 1), some (.invokevirtual 442, 3), none, none, some (.ireturn, 1)]]
def s_cd145 : sCode := [[some (.aload_n 0, 1), some (.iload_n 1, 1), some (.invokevirtual 1417, 3), none, none, some (.istore_n 2, 1), some (.iload_n 2, 1), some (.ifCond .eq 5, 3), none, none, some (.iload_n 2, 1), some (.ireturn, 1), some (.aload_n 0, 1), some (.getfield 644, 3), none, none], [some (.invokevirtual 384, 3), none, none, some (.aload_n 0, 1), some (.getfield 644, 3), none, none, some (.aload_n 0, 1), some (.iload_n 1, 1), some (.invokevirtual 1409, 3), none, none, some (.invokevirtual 449, 3), none, none, some (.istore_n 3, 1)], [some (.iload_n 3, 1), some (.ifCond .ge 8, 3), none, none, some (.bipush (-2), 2), none, some (.goto 4, 3), none, none, some (.iload_n 3, 1), some (.ireturn, 1)]]
def s_cd146 : sCode := [[some (.aload_n 0, 1), some (.getfield 644, 3), none, none, some (.invokevirtual 384, 3), none, none, some (.iconst 0, 1), some (.istore_n 1, 1), some (.iconst 0, 1), some (.istore_n 2, 1), some (.iload_n 2, 1), some (.bipush 125, 2), none, some (.if_icmp .ge 38, 3), none], [none, some (.aload_n 0, 1), some (.getfield 644, 3), none, none, some (.iload_n 2, 1), some (.aload_n 0, 1), some (.getfield 644, 3), none, none, some (.getfield 194, 3), none, none, some (.invokevirtual 418, 3), none, none], [some (.astore_n 3, 1), some (.aload_n 3, 1), some (.ifnull 12, 3), none, none, some (.iload_n 1, 1), some (.iconst 1, 1), some (.aload_n 3, 1), some (.getfield 256, 3), none, none, some (.ishl, 1), some (.ior, 1), some (.istore_n 1, 1), some (.iinc 2 1, 3), none], [none, some (.goto (-38), 3), none, none, some (.aload_n 0, 1), some (.getfield 644, 3), none, none, some (.invokevirtual 336, 3), none, none, some (.iload_n 1, 1), some (.iconst (-1), 1), some (.ixor, 1), some (.iand, 1), some (.ireturn, 1)]]
def s_cd147 : sCode := [[some (.iload_n 1, 1), some (.ifCond .lt 16, 3), none, none, some (.iload_n 1, 1), some (.bipush 99, 2), none, some (.if_icmp .gt 10, 3), none, none, some (.iload_n 2, 1), some (.invokestatic 1393, 3), none, none, some (.ifCond .ne 5, 3), none], [none, some (.iconst (-1), 1), some (.ireturn, 1), some (.iload_n 1, 1), some (.bipush 10, 2), none, some (.idiv, 1), some (.istore_n 3, 1), some (.iload_n 1, 1), some (.bipush 10, 2), none, some (.irem, 1), some (.istore 4, 2), none, some (.iload_n 3, 1), some (.iload 4, 2)], [none, some (.if_icmp .eq 26, 3), none, none, some (.aload_n 0, 1), some (.getfield 644, 3), none, none, some (.iload_n 3, 1), some (.invokevirtual 369, 3), none, none, some (.ifCond .eq 15, 3), none, none, some (.aload_n 0, 1)], [some (.getfield 644, 3), none, none, some (.iload 4, 2), none, some (.invokevirtual 369, 3), none, none, some (.ifCond .ne 5, 3), none, none, some (.iconst (-1), 1), some (.ireturn, 1), some (.aload_n 0, 1), some (.getfield 644, 3), none], [none, some (.invokevirtual 384, 3), none, none, some (.aload_n 0, 1), some (.getfield 644, 3), none, none, some (.iload_n 3, 1), some (.invokevirtual 329, 3), none, none, some (.astore 5, 2), none, some (.aload_n 0, 1), some (.getfield 644, 3)], [none, none, some (.iload 4, 2), none, some (.invokevirtual 329, 3), none, none, some (.astore 6, 2), none, some (.aload_n 0, 1), some (.getfield 650, 3), none, none, some (.invokevirtual 40, 3), none, none], [some (.aload 5, 2), none, some (.getfield 258, 3), none, none, some (.aload 6, 2), none, some (.getfield 258, 3), none, none, some (.if_icmp .eq 20, 3), none, none, some (.aload_n 0, 1), some (.getfield 650, 3), none], [none, some (.aload 5, 2), none, some (.getfield 261, 3), none, none, some (.aload 6, 2), none, some (.getfield 261, 3), none, none, some (.invokevirtual 74, 3), none, none, some (.iload_n 2, 1), some (.ifCond .ne 13, 3)], [none, none, some (.aload_n 0, 1), some (.getfield 650, 3), none, none, some (.invokevirtual 88, 3), none, none, some (.goto 10, 3), none, none, some (.aload_n 0, 1), some (.getfield 650, 3), none, none], [some (.invokevirtual 80, 3), none, none, some (.ireturn, 1)]]
def s_cd148 : sCode := [[some (.aload_n 0, 1), some (.iload_n 1, 1), some (.iload_n 2, 1), some (.iload_n 3, 1), some (.invokevirtual 1427, 3), none, none, some (.istore 4, 2), none, some (.iload 4, 2), none, some (.ifCond .eq 6, 3), none, none, some (.iload 4, 2), none], [some (.ireturn, 1), some (.aload_n 0, 1), some (.iload_n 1, 1), some (.invokevirtual 1409, 3), none, none, some (.astore 5, 2), none, some (.aload 5, 2), none, some (.invokevirtual 768, 3), none, none, some (.ifCond .ne 6, 3), none, none], [some (.bipush (-2), 2), none, some (.ireturn, 1), some (.aload_n 0, 1), some (.getfield 644, 3), none, none, some (.invokevirtual 384, 3), none, none, some (.aload_n 0, 1), some (.getfield 646, 3), none, none, some (.aload_n 0, 1), some (.getfield 644, 3)], [none, none, some (.getfield 192, 3), none, none, some (.aload_n 0, 1), some (.getfield 644, 3), none, none, some (.getfield 195, 3), none, none, some (.iload_n 2, 1), some (.iload_n 3, 1), some (.invokevirtual 908, 3), none], [none, some (.aload_n 0, 1), some (.getfield 646, 3), none, none, some (.aload 5, 2), none, some (.aload_n 0, 1), some (.getfield 644, 3), none, none, some (.invokevirtual 962, 3), none, none, some (.ireturn, 1)]]
def s_cd149 : sCode := [[some (.aload_n 0, 1), some (.iload_n 1, 1), some (.iload_n 2, 1), some (.iload_n 3, 1), some (.invokevirtual 1427, 3), none, none, some (.istore 4, 2), none, some (.iload 4, 2), none, some (.ifCond .eq 6, 3), none, none, some (.iload 4, 2), none], [some (.ireturn, 1), some (.aload_n 0, 1), some (.getfield 644, 3), none, none, some (.invokevirtual 384, 3), none, none, some (.aload_n 0, 1), some (.getfield 646, 3), none, none, some (.aload_n 0, 1), some (.getfield 644, 3), none, none], [some (.getfield 192, 3), none, none, some (.aload_n 0, 1), some (.getfield 644, 3), none, none, some (.getfield 195, 3), none, none, some (.iload_n 2, 1), some (.iload_n 3, 1), some (.invokevirtual 908, 3), none, none, some (.aload_n 0, 1)], [some (.getfield 646, 3), none, none, some (.aload_n 0, 1), some (.iload_n 1, 1), some (.invokevirtual 1409, 3), none, none, some (.aload_n 0, 1), some (.getfield 644, 3), none, none, some (.invokevirtual 986, 3), none, none, some (.astore 5, 2)], [none, some (.aload 5, 2), none, some (.ifnonnull 8, 3), none, none, some (.bipush (-2), 2), none, some (.goto 8, 3), none, none, some (.aload 5, 2), none, some (.getfield 256, 3), none, none], [some (.ireturn, 1)]]
def s_cd150 : sCode := [[some (.iload_n 1, 1), some (.invokestatic 1377, 3), none, none, some (.ifCond .eq 10, 3), none, none, some (.iload_n 2, 1), some (.invokestatic 1393, 3), none, none, some (.ifCond .ne 5, 3), none, none, some (.iconst (-1), 1), some (.ireturn, 1)], [some (.aload_n 0, 1), some (.getfield 644, 3), none, none, some (.invokevirtual 384, 3), none, none, some (.aload_n 0, 1), some (.getfield 644, 3), none, none, some (.invokevirtual 456, 3), none, none, some (.aload_n 0, 1), some (.getfield 644, 3)], [none, none, some (.getfield 192, 3), none, none, some (.astore_n 3, 1), some (.aload_n 3, 1), some (.iload_n 1, 1), some (.invokevirtual 1025, 3), none, none, some (.istore 4, 2), none, some (.aload_n 3, 1), some (.iload_n 1, 1), some (.invokevirtual 1033, 3)], [none, none, some (.istore 5, 2), none, some (.aload_n 3, 1), some (.iload_n 1, 1), some (.iconst (-1), 1), some (.iconst 0, 1), some (.invokevirtual 1019, 3), none, none, some (.aload_n 0, 1), some (.getfield 644, 3), none, none, some (.invokevirtual 384, 3)], [none, none, some (.aload_n 0, 1), some (.getfield 644, 3), none, none, some (.aload_n 0, 1), some (.getfield 650, 3), none, none, some (.invokevirtual 465, 3), none, none, some (.aload_n 3, 1), some (.iload_n 1, 1), some (.iload 4, 2)], [none, some (.iload 5, 2), none, some (.invokevirtual 1019, 3), none, none, some (.iload_n 2, 1), some (.ifCond .ne 13, 3), none, none, some (.aload_n 0, 1), some (.getfield 650, 3), none, none, some (.invokevirtual 80, 3), none], [none, some (.goto 10, 3), none, none, some (.aload_n 0, 1), some (.getfield 650, 3), none, none, some (.invokevirtual 88, 3), none, none, some (.ireturn, 1)]]
def s_cd151 : sCode := [[some (.aload_n 0, 1), some (.iload_n 1, 1), some (.invokevirtual 1417, 3), none, none, some (.istore_n 2, 1), some (.iload_n 2, 1), some (.ifCond .eq 5, 3), none, none, some (.iload_n 2, 1), some (.ireturn, 1), some (.aload_n 0, 1), some (.iload_n 1, 1), some (.invokevirtual 1409, 3), none], [none, some (.astore_n 3, 1), some (.aload_n 3, 1), some (.invokevirtual 768, 3), none, none, some (.ifCond .ne 6, 3), none, none, some (.bipush (-2), 2), none, some (.ireturn, 1), some (.aload_n 0, 1), some (.getfield 644, 3), none, none], [some (.invokevirtual 384, 3), none, none, some (.bipush 11, 2), none, some (.istore 4, 2), none, some (.bipush (-2), 2), none, some (.istore 5, 2), none, some (.aload_n 0, 1), some (.getfield 644, 3), none, none, some (.invokevirtual 336, 3)], [none, none, some (.istore 6, 2), none, some (.iconst 0, 1), some (.istore 7, 2), none, some (.iload 7, 2), none, some (.iload 6, 2), none, some (.if_icmp .gt 51, 3), none, none, some (.iload 7, 2), none], [some (.invokestatic 2313, 3), none, none, some (.istore 8, 2), none, some (.iload 8, 2), none, some (.iload 4, 2), none, some (.if_icmp .ge 31, 3), none, none, some (.aload_n 0, 1), some (.getfield 644, 3), none, none], [some (.iload 7, 2), none, some (.invokevirtual 401, 3), none, none, some (.aload_n 0, 1), some (.getfield 644, 3), none, none, some (.aload_n 3, 1), some (.invokevirtual 449, 3), none, none, some (.ifCond .ge 11, 3), none, none], [some (.iload 8, 2), none, some (.istore 4, 2), none, some (.iload 7, 2), none, some (.istore 5, 2), none, some (.iinc 7 1, 3), none, none, some (.goto (-52), 3), none, none, some (.iload 5, 2), none], [some (.ireturn, 1)]]
def s_cd152 : sCode := [[some (.aload_n 0, 1), some (.getfield 644, 3), none, none, some (.iload_n 1, 1), some (.invokevirtual 321, 3), none, none, some (.ifCond .eq 10, 3), none, none, some (.iload_n 2, 1), some (.invokestatic 1393, 3), none, none, some (.ifCond .ne 5, 3)], [none, none, some (.iconst (-1), 1), some (.ireturn, 1), some (.aload_n 0, 1), some (.getfield 644, 3), none, none, some (.iload_n 1, 1), some (.invokevirtual 369, 3), none, none, some (.ifCond .ne 6, 3), none, none, some (.bipush (-5), 2)], [none, some (.ireturn, 1), some (.aload_n 0, 1), some (.getfield 644, 3), none, none, some (.invokevirtual 384, 3), none, none, some (.aload_n 0, 1), some (.getfield 644, 3), none, none, some (.invokevirtual 456, 3), none, none], [some (.aload_n 0, 1), some (.getfield 644, 3), none, none, some (.getfield 196, 3), none, none, some (.istore_n 3, 1), some (.aload_n 0, 1), some (.getfield 644, 3), none, none, some (.iload_n 1, 1), some (.invokevirtual 329, 3), none, none], [some (.astore 4, 2), none, some (.aload 4, 2), none, some (.getfield 257, 3), none, none, some (.istore 5, 2), none, some (.aload 4, 2), none, some (.iconst (-1), 1), some (.putfield 257, 3), none, none, some (.aload_n 0, 1)], [some (.getfield 644, 3), none, none, some (.invokevirtual 384, 3), none, none, some (.aload_n 0, 1), some (.getfield 644, 3), none, none, some (.aload_n 0, 1), some (.getfield 650, 3), none, none, some (.invokevirtual 465, 3), none], [none, some (.aload 4, 2), none, some (.iload 5, 2), none, some (.putfield 257, 3), none, none, some (.iload_n 2, 1), some (.ifCond .ne 13, 3), none, none, some (.aload_n 0, 1), some (.getfield 650, 3), none, none], [some (.invokevirtual 80, 3), none, none, some (.goto 14, 3), none, none, some (.iload_n 3, 1), some (.aload_n 0, 1), some (.getfield 644, 3), none, none, some (.getfield 196, 3), none, none, some (.iconst (-1), 1), some (.ixor, 1)], [some (.iand, 1), some (.ireturn, 1)]]
def s_cd153 : sCode := [[some (.iload_n 1, 1), some (.ifCond .lt 30, 3), none, none, some (.iload_n 1, 1), some (.bipush 10, 2), none, some (.idiv, 1), some (.invokestatic 1385, 3), none, none, some (.ifCond .eq 20, 3), none, none, some (.iload_n 1, 1), some (.bipush 10, 2)], [none, some (.irem, 1), some (.invokestatic 1385, 3), none, none, some (.ifCond .eq 10, 3), none, none, some (.iload_n 2, 1), some (.invokestatic 1393, 3), none, none, some (.ifCond .ne 5, 3), none, none, some (.iconst (-1), 1)], [some (.ireturn, 1), some (.aload_n 0, 1), some (.getfield 644, 3), none, none, some (.invokevirtual 384, 3), none, none, some (.aload_n 0, 1), some (.getfield 650, 3), none, none, some (.invokevirtual 40, 3), none, none, some (.iconst 0, 1)], [some (.istore_n 3, 1), some (.iload_n 3, 1), some (.bipush 125, 2), none, some (.if_icmp .ge 44, 3), none, none, some (.aload_n 0, 1), some (.getfield 644, 3), none, none, some (.iload_n 3, 1), some (.iload_n 1, 1), some (.bipush 10, 2), none, some (.idiv, 1)], [some (.invokevirtual 426, 3), none, none, some (.aload_n 0, 1), some (.getfield 644, 3), none, none, some (.iload_n 3, 1), some (.iload_n 1, 1), some (.bipush 10, 2), none, some (.irem, 1), some (.invokevirtual 426, 3), none, none, some (.if_icmp .eq 11, 3)], [none, none, some (.aload_n 0, 1), some (.getfield 650, 3), none, none, some (.iload_n 3, 1), some (.invokevirtual 57, 3), none, none, some (.iinc 3 1, 3), none, none, some (.goto (-44), 3), none, none], [some (.iload_n 2, 1), some (.ifCond .ne 13, 3), none, none, some (.aload_n 0, 1), some (.getfield 650, 3), none, none, some (.invokevirtual 80, 3), none, none, some (.goto 10, 3), none, none, some (.aload_n 0, 1), some (.getfield 650, 3)], [none, none, some (.invokevirtual 88, 3), none, none, some (.ireturn, 1)]]
def s_cd154 : sCode := [[some (.iconst 0, 1), some (.istore_n 1, 1), some (.iconst 0, 1), some (.istore_n 2, 1), some (.iload_n 2, 1), some (.aload_n 0, 1), some (.getfield 644, 3), none, none, some (.getfield 193, 3), none, none, some (.if_icmp .ge 26, 3), none, none, some (.aload_n 0, 1)], [some (.getfield 644, 3), none, none, some (.iload_n 2, 1), some (.invokevirtual 473, 3), none, none, some (.ifCond .eq 9, 3), none, none, some (.iload_n 1, 1), some (.iconst 1, 1), some (.iload_n 2, 1), some (.ishl, 1), some (.ior, 1), some (.istore_n 1, 1)], [some (.iinc 2 1, 3), none, none, some (.goto (-31), 3), none, none, some (.iload_n 1, 1), some (.ireturn, 1)]]
def s_cd155 : sCode := [[some (.iconst 0, 1), some (.istore_n 1, 1), some (.iload_n 1, 1), some (.aload_n 0, 1), some (.getfield 644, 3), none, none, some (.getfield 193, 3), none, none, some (.if_icmp .ge 20, 3), none, none, some (.aload_n 0, 1), some (.getfield 644, 3), none], [none, some (.iload_n 1, 1), some (.invokevirtual 329, 3), none, none, some (.invokevirtual 520, 3), none, none, some (.iinc 1 1, 3), none, none, some (.goto (-25), 3), none, none, some (.aload_n 0, 1), some (.getfield 644, 3)], [none, none, some (.getfield 192, 3), none, none, some (.invokevirtual 1048, 3), none, none, some (.aload_n 0, 1), some (.aload_n 0, 1), some (.getfield 644, 3), none, none, some (.getfield 193, 3), none, none], [some (.putfield 651, 3), none, none, some (.aload_n 0, 1), some (.getfield 651, 3), none, none, some (.ireturn, 1)]]
def s_cd156 : sCode := [[some (.aload_n 0, 1), some (.getfield 651, 3), none, none, some (.iconst (-1), 1), some (.if_icmp .ne 6, 3), none, none, some (.bipush (-5), 2), none, some (.ireturn, 1), some (.iconst 0, 1), some (.istore_n 1, 1), some (.iload_n 1, 1), some (.aload_n 0, 1), some (.getfield 651, 3)], [none, none, some (.if_icmp .ge 20, 3), none, none, some (.aload_n 0, 1), some (.getfield 644, 3), none, none, some (.iload_n 1, 1), some (.invokevirtual 329, 3), none, none, some (.invokevirtual 528, 3), none, none], [some (.iinc 1 1, 3), none, none, some (.goto (-22), 3), none, none, some (.aload_n 0, 1), some (.getfield 644, 3), none, none, some (.getfield 192, 3), none, none, some (.invokevirtual 1056, 3), none, none], [some (.aload_n 0, 1), some (.getfield 645, 3), none, none, some (.invokevirtual 120, 3), none, none, some (.aload_n 0, 1), some (.getfield 651, 3), none, none, some (.ireturn, 1)]]
def s_cd157 : sCode := [[some (.aload_n 0, 1), some (.getfield 645, 3), none, none, some (.invokevirtual 128, 3), none, none, some (.istore_n 1, 1), some (.iload_n 1, 1), some (.ifCond .ge 6, 3), none, none, some (.bipush (-5), 2), none, some (.ireturn, 1), some (.aload_n 0, 1)], [some (.getfield 644, 3), none, none, some (.aload_n 0, 1), some (.getfield 645, 3), none, none, some (.iload_n 1, 1), some (.invokevirtual 161, 3), none, none, some (.aload_n 0, 1), some (.getfield 645, 3), none, none, some (.iload_n 1, 1)], [some (.invokevirtual 169, 3), none, none, some (.aload_n 0, 1), some (.getfield 645, 3), none, none, some (.iload_n 1, 1), some (.invokevirtual 177, 3), none, none, some (.invokevirtual 363, 3), none, none, some (.aload_n 0, 1), some (.getfield 645, 3)], [none, none, some (.invokevirtual 144, 3), none, none, some (.ireturn, 1)]]
def s_cd158 : sCode := [[some (.aload_n 0, 1), some (.getfield 645, 3), none, none, some (.invokevirtual 136, 3), none, none, some (.istore_n 1, 1), some (.iload_n 1, 1), some (.ifCond .ge 6, 3), none, none, some (.bipush (-5), 2), none, some (.ireturn, 1), some (.aload_n 0, 1)], [some (.getfield 644, 3), none, none, some (.aload_n 0, 1), some (.getfield 645, 3), none, none, some (.iload_n 1, 1), some (.invokevirtual 161, 3), none, none, some (.aload_n 0, 1), some (.getfield 645, 3), none, none, some (.iload_n 1, 1)], [some (.invokevirtual 169, 3), none, none, some (.aload_n 0, 1), some (.getfield 645, 3), none, none, some (.iload_n 1, 1), some (.invokevirtual 185, 3), none, none, some (.invokevirtual 363, 3), none, none, some (.aload_n 0, 1), some (.getfield 645, 3)], [none, none, some (.invokevirtual 152, 3), none, none, some (.ireturn, 1)]]
def s_cd159 : sCode := [[some (.iload_n 1, 1), some (.invokestatic 201, 3), none, none, some (.ifCond .ne 5, 3), none, none, some (.iconst (-1), 1), some (.ireturn, 1), some (.aload_n 0, 1), some (.getfield 647, 3), none, none, some (.iload_n 1, 1), some (.invokevirtual 225, 3), none], [none, some (.istore_n 2, 1), some (.iload_n 2, 1), some (.ifCond .ge 8, 3), none, none, some (.bipush (-3), 2), none, some (.goto 4, 3), none, none, some (.iload_n 2, 1), some (.ireturn, 1)]]
def s_cd160 : sCode := [[some (.aload_n 0, 1), some (.getfield 647, 3), none, none, some (.iload_n 1, 1), some (.iload_n 2, 1), some (.iload_n 3, 1), some (.invokevirtual 259, 3), none, none, some (.ireturn, 1)]]
def s_cd161 : sCode := [[some (.aload_n 0, 1), some (.getfield 647, 3), none, none, some (.iload_n 1, 1), some (.invokevirtual 249, 3), none, none, some (.ireturn, 1)]]
def s_cd162 : sCode := [[some (.iload_n 1, 1), some (.invokestatic 1401, 3), none, none, some (.ifCond .eq 19, 3), none, none, some (.iload_n 2, 1), some (.iconst (-1), 1), some (.if_icmp .eq 16, 3), none, none, some (.aload_n 0, 1), some (.getfield 647, 3), none, none], [some (.iload_n 2, 1), some (.invokevirtual 233, 3), none, none, some (.ifCond .ne 5, 3), none, none, some (.iconst (-1), 1), some (.ireturn, 1), some (.iload_n 2, 1), some (.iconst (-1), 1), some (.if_icmp .ne 14, 3), none, none, some (.aload_n 0, 1), some (.iload_n 1, 1)], [some (.invokevirtual 1409, 3), none, none, some (.invokevirtual 688, 3), none, none, some (.goto 12, 3), none, none, some (.aload_n 0, 1), some (.iload_n 1, 1), some (.invokevirtual 1409, 3), none, none, some (.iload_n 2, 1), some (.invokevirtual 697, 3)], [none, none, some (.iconst 1, 1), some (.ireturn, 1)]]
def s_cd163 : sCode := [[some (.iload_n 1, 1), some (.invokestatic 1401, 3), none, none, some (.ifCond .eq 16, 3), none, none, some (.iload_n 2, 1), some (.invokestatic 665, 3), none, none, some (.ifCond .eq 9, 3), none, none, some (.iload_n 3, 1), some (.bipush 60, 2)], [none, some (.if_icmp .le 5, 3), none, none, some (.iconst (-1), 1), some (.ireturn, 1), some (.iload_n 3, 1), some (.ifCond .ge 6, 3), none, none, some (.bipush (-14), 2), none, some (.ireturn, 1), some (.aload_n 0, 1), some (.iload_n 1, 1), some (.invokevirtual 1409, 3)], [none, none, some (.iload_n 2, 1), some (.iload_n 3, 1), some (.invokevirtual 706, 3), none, none, some (.iconst 1, 1), some (.ireturn, 1)]]
def s_cd164 : sCode := [[some (.aload_n 0, 1), some (.iload_n 1, 1), some (.iload_n 2, 1), some (.invokevirtual 1434, 3), none, none, some (.istore 5, 2), none, some (.iload 5, 2), none, some (.ifCond .eq 6, 3), none, none, some (.iload 5, 2), none, some (.ireturn, 1)], [some (.aload_n 0, 1), some (.iload_n 1, 1), some (.invokevirtual 1409, 3), none, none, some (.iload_n 2, 1), some (.lload_n 3, 1), some (.invokevirtual 730, 3), none, none, some (.iconst 1, 1), some (.ireturn, 1)]]
def s_cd165 : sCode := [[some (.aload_n 0, 1), some (.iload_n 1, 1), some (.iload_n 2, 1), some (.invokevirtual 1434, 3), none, none, some (.ifCond .eq 9, 3), none, none, some (.ldc2_w 9223372036854775808, 3), none, none, some (.goto 12, 3), none, none, some (.aload_n 0, 1)], [some (.iload_n 1, 1), some (.invokevirtual 1409, 3), none, none, some (.iload_n 2, 1), some (.invokevirtual 721, 3), none, none, some (.lreturn, 1)]]
def s_cd166 : sCode := [[some (.iload_n 1, 1), some (.invokestatic 1401, 3), none, none, some (.ifCond .eq 10, 3), none, none, some (.iload_n 3, 1), some (.invokestatic 1401, 3), none, none, some (.ifCond .ne 5, 3), none, none, some (.iconst (-1), 1), some (.ireturn, 1)], [some (.aload_n 0, 1), some (.iload_n 1, 1), some (.invokevirtual 1409, 3), none, none, some (.astore 6, 2), none, some (.aload_n 0, 1), some (.iload_n 3, 1), some (.invokevirtual 1409, 3), none, none, some (.astore 7, 2), none, some (.aload 6, 2), none], [some (.invokevirtual 672, 3), none, none, some (.ifCond .ne 11, 3), none, none, some (.aload 7, 2), none, some (.invokevirtual 672, 3), none, none, some (.ifCond .eq 6, 3), none, none, some (.bipush (-11), 2), none], [some (.ireturn, 1), some (.aload 6, 2), none, some (.invokevirtual 680, 3), none, none, some (.ifCond .eq 16, 3), none, none, some (.aload 6, 2), none, some (.getfield 384, 3), none, none, some (.aload 7, 2), none], [some (.getfield 384, 3), none, none, some (.if_icmp .eq 6, 3), none, none, some (.bipush (-12), 2), none, some (.ireturn, 1), some (.aload 6, 2), none, some (.iload_n 2, 1), some (.iload 5, 2), none, some (.invokevirtual 714, 3), none], [none, some (.ifCond .eq 15, 3), none, none, some (.aload 7, 2), none, some (.iload 4, 2), none, some (.iload 5, 2), none, some (.invokevirtual 714, 3), none, none, some (.ifCond .ne 6, 3), none, none], [some (.bipush (-13), 2), none, some (.ireturn, 1), some (.aload 7, 2), none, some (.aload 6, 2), none, some (.iload_n 2, 1), some (.iload 4, 2), none, some (.iload 5, 2), none, some (.invokevirtual 748, 3), none, none, some (.iload 5, 2)], [none, some (.ireturn, 1)]]
def s_cd167 : sCode := [[some (.iload_n 1, 1), some (.invokestatic 1401, 3), none, none, some (.ifCond .eq 10, 3), none, none, some (.iload_n 2, 1), some (.invokestatic 201, 3), none, none, some (.ifCond .ne 5, 3), none, none, some (.iconst (-1), 1), some (.ireturn, 1)], [some (.aload_n 0, 1), some (.iload_n 1, 1), some (.invokevirtual 1409, 3), none, none, some (.astore_n 3, 1), some (.aload_n 3, 1), some (.invokevirtual 672, 3), none, none, some (.ifCond .eq 6, 3), none, none, some (.bipush (-11), 2), none, some (.ireturn, 1)], [some (.aload_n 3, 1), some (.getfield 384, 3), none, none, some (.iconst 5, 1), some (.if_icmp .ne 17, 3), none, none, some (.aload_n 0, 1), some (.getfield 647, 3), none, none, some (.aload_n 3, 1), some (.getfield 385, 3), none, none], [some (.invokevirtual 241, 3), none, none, some (.goto 4, 3), none, none, some (.iconst (-1), 1), some (.istore 4, 2), none, some (.iload 4, 2), none, some (.iload_n 2, 1), some (.invokestatic 218, 3), none, none, some (.ifCond .eq 8, 3)], [none, none, some (.iload 4, 2), none, some (.goto 5, 3), none, none, some (.bipush (-12), 2), none, some (.ireturn, 1)]]
def s_cd168 : sCode := [[some (.iload_n 1, 1), some (.tableswitch 109 0 6 #[43, 51, 62, 80, 85, 93, 101], 43), none, none, none, none, none, none, none, none, none, none, none, none, none, none], [none, none, none, none, none, none, none, none, none, none, none, none, none, none, none, none], [none, none, none, none, none, none, none, none, none, none, none, none, some (.aload_n 0, 1), some (.getfield 644, 3), none, none], [some (.getfield 193, 3), none, none, some (.ireturn, 1), some (.aload_n 0, 1), some (.getfield 644, 3), none, none, some (.invokevirtual 376, 3), none, none, some (.invokestatic 2313, 3), none, none, some (.ireturn, 1), some (.aload_n 0, 1)], [some (.getfield 644, 3), none, none, some (.invokevirtual 384, 3), none, none, some (.aload_n 0, 1), some (.getfield 644, 3), none, none, some (.getfield 196, 3), none, none, some (.invokestatic 2313, 3), none, none], [some (.ireturn, 1), some (.aload_n 0, 1), some (.getfield 641, 3), none, none, some (.ireturn, 1), some (.aload_n 0, 1), some (.getfield 645, 3), none, none, some (.getfield 64, 3), none, none, some (.ireturn, 1), some (.aload_n 0, 1), some (.getfield 647, 3)], [none, none, some (.getfield 128, 3), none, none, some (.ireturn, 1), some (.aload_n 0, 1), some (.getfield 647, 3), none, none, some (.getfield 129, 3), none, none, some (.ireturn, 1), some (.iconst (-1), 1), some (.ireturn, 1)]]
def s_cd169 : sCode := [[some (.iload_n 0, 1), some (.ifCond .lt 13, 3), none, none, some (.iload_n 0, 1), some (.bipush 99, 2), none, some (.if_icmp .gt 7, 3), none, none, some (.iconst 1, 1), some (.goto 4, 3), none, none, some (.iconst 0, 1), some (.ireturn, 1)]]
def s_cd170 : sCode := [[some (.iload_n 0, 1), some (.ifCond .lt 12, 3), none, none, some (.iload_n 0, 1), some (.iconst 2, 1), some (.if_icmp .gt 7, 3), none, none, some (.iconst 1, 1), some (.goto 4, 3), none, none, some (.iconst 0, 1), some (.ireturn, 1)]]
def s_cd171 : sCode := [[some (.iload_n 0, 1), some (.iconst (-1), 1), some (.if_icmp .lt 13, 3), none, none, some (.iload_n 0, 1), some (.bipush 10, 2), none, some (.if_icmp .ge 7, 3), none, none, some (.iconst 1, 1), some (.goto 4, 3), none, none, some (.iconst 0, 1)], [some (.ireturn, 1)]]
def s_cd172 : sCode := [[some (.iload_n 0, 1), some (.ifCond .lt 12, 3), none, none, some (.iload_n 0, 1), some (.iconst 3, 1), some (.if_icmp .ge 7, 3), none, none, some (.iconst 1, 1), some (.goto 4, 3), none, none, some (.iconst 0, 1), some (.ireturn, 1)]]
def s_cd173 : sCode := [[some (.iload_n 0, 1), some (.ifCond .lt 12, 3), none, none, some (.iload_n 0, 1), some (.iconst 4, 1), some (.if_icmp .ge 7, 3), none, none, some (.iconst 1, 1), some (.goto 4, 3), none, none, some (.iconst 0, 1), some (.ireturn, 1)]]
def s_cd174 : sCode := [[some (.iload_n 0, 1), some (.ifCond .eq 8, 3), none, none, some (.iload_n 0, 1), some (.iconst 1, 1), some (.if_icmp .ne 7, 3), none, none, some (.iconst 1, 1), some (.goto 4, 3), none, none, some (.iconst 0, 1), some (.ireturn, 1)]]
def s_cd175 : sCode := [[some (.iload_n 0, 1), some (.ifCond .lt 13, 3), none, none, some (.iload_n 0, 1), some (.bipush 6, 2), none, some (.if_icmp .ge 7, 3), none, none, some (.iconst 1, 1), some (.goto 4, 3), none, none, some (.iconst 0, 1), some (.ireturn, 1)]]
def s_cd176 : sCode := [[some (.iload_n 1, 1), some (.ifCond .lt 21, 3), none, none, some (.iload_n 1, 1), some (.aload_n 0, 1), some (.getfield 648, 3), none, none, some (.arraylength, 1), some (.if_icmp .ge 12, 3), none, none, some (.aload_n 0, 1), some (.getfield 648, 3), none], [none, some (.iload_n 1, 1), some (.aaload, 1), some (.ifnonnull 8, 3), none, none, some (.aload_n 0, 1), some (.getfield 649, 3), none, none, some (.areturn, 1), some (.aload_n 0, 1), some (.getfield 648, 3), none, none, some (.iload_n 1, 1)], [some (.aaload, 1), some (.areturn, 1)]]
def s_cd177 : sCode := [[some (.iload_n 1, 1), some (.invokestatic 1401, 3), none, none, some (.ifCond .ne 5, 3), none, none, some (.iconst (-1), 1), some (.ireturn, 1), some (.aload_n 0, 1), some (.iload_n 1, 1), some (.invokevirtual 1409, 3), none, none, some (.astore_n 2, 1), some (.aload_n 2, 1)], [some (.invokevirtual 672, 3), none, none, some (.ifCond .eq 6, 3), none, none, some (.bipush (-11), 2), none, some (.ireturn, 1), some (.aload_n 2, 1), some (.getfield 384, 3), none, none, some (.iconst 1, 1), some (.if_icmp .ne 7, 3), none], [none, some (.iconst 0, 1), some (.goto 5, 3), none, none, some (.bipush (-12), 2), none, some (.ireturn, 1)]]
def s_cd178 : sCode := [[some (.iload_n 2, 1), some (.invokestatic 1353, 3), none, none, some (.ifCond .eq 18, 3), none, none, some (.iload_n 3, 1), some (.invokestatic 1361, 3), none, none, some (.ifCond .eq 11, 3), none, none, some (.aload_n 0, 1), some (.iload_n 1, 1)], [some (.invokevirtual 1417, 3), none, none, some (.goto 4, 3), none, none, some (.iconst (-1), 1), some (.ireturn, 1)]]
def s_cd179 : sCode := [[some (.iload_n 1, 1), some (.invokestatic 1401, 3), none, none, some (.ifCond .ne 5, 3), none, none, some (.iconst (-1), 1), some (.ireturn, 1), some (.aload_n 0, 1), some (.iload_n 1, 1), some (.invokevirtual 1409, 3), none, none, some (.astore_n 3, 1), some (.aload_n 3, 1)], [some (.invokevirtual 672, 3), none, none, some (.ifCond .eq 6, 3), none, none, some (.bipush (-11), 2), none, some (.ireturn, 1), some (.aload_n 3, 1), some (.invokevirtual 680, 3), none, none, some (.ifCond .ne 6, 3), none, none], [some (.bipush (-12), 2), none, some (.ireturn, 1), some (.aload_n 3, 1), some (.iload_n 2, 1), some (.iconst 1, 1), some (.invokevirtual 714, 3), none, none, some (.ifCond .eq 7, 3), none, none, some (.iconst 0, 1), some (.goto 5, 3), none, none], [some (.bipush (-13), 2), none, some (.ireturn, 1)]]
def s_cd180 : sCode := [[some (.aload_n 0, 1), some (.invokespecial 0, 3), none, none, some (.aload_n 0, 1), some (.bipush 60, 2), none, some (.newarray .byte, 2), none, some (.putstatic 705, 3), none, none, some (.aload_n 0, 1), some (.sipush 1430, 3), none, none], [some (.newarray .byte, 2), none, some (.putstatic 711, 3), none, none, some (.aload_n 0, 1), some (.sipush 1430, 3), none, none, some (.newarray .int, 2), none, some (.putstatic 712, 3), none, none, some (.aload_n 0, 1), some (.bipush 11, 2)], [none, some (.newarray .int, 2), none, some (.putstatic 713, 3), none, none, some (.aload_n 0, 1), some (.sipush 671, 3), none, none, some (.newarray .short, 2), none, some (.putstatic 714, 3), none, none, some (.aload_n 0, 1)], [some (.sipush 671, 3), none, none, some (.newarray .short, 2), none, some (.putstatic 715, 3), none, none, some (.aload_n 0, 1), some (.bipush 6, 2), none, some (.newarray .int, 2), none, some (.putstatic 716, 3), none, none], [some (.aload_n 0, 1), some (.sipush 130, 3), none, none, some (.newarray .int, 2), none, some (.putstatic 717, 3), none, none, some (.aload_n 0, 1), some (.bipush 11, 2), none, some (.newarray .int, 2), none, some (.putstatic 719, 3), none], [none, some (.aload_n 0, 1), some (.bipush 11, 2), none, some (.newarray .int, 2), none, some (.putstatic 720, 3), none, none, some (.aload_n 0, 1), some (.bipush 11, 2), none, some (.newarray .int, 2), none, some (.putstatic 721, 3), none], [none, some (.aload_n 0, 1), some (.bipush 99, 2), none, some (.putfield 723, 3), none, none, some (.aload_n 0, 1), some (.iconst 3, 1), some (.newarray .int, 2), none, some (.dup, 1), some (.iconst 0, 1), some (.iconst (-1), 1), some (.iastore, 1), some (.dup, 1)], [some (.iconst 1, 1), some (.iconst (-1), 1), some (.iastore, 1), some (.dup, 1), some (.iconst 2, 1), some (.iconst (-1), 1), some (.iastore, 1), some (.putstatic 724, 3), none, none, some (.aload_n 0, 1), some (.iconst 3, 1), some (.newarray .int, 2), none, some (.putstatic 725, 3), none], [none, some (.aload_n 0, 1), some (.bipush 60, 2), none, some (.newarray .byte, 2), none, some (.putstatic 726, 3), none, none, some (.aload_n 0, 1), some (.bipush 40, 2), none, some (.newarray .int, 2), none, some (.putstatic 729, 3), none], [none, some (.aload_n 0, 1), some (.bipush 40, 2), none, some (.newarray .int, 2), none, some (.putstatic 730, 3), none, none, some (.aload_n 0, 1), some (.bipush 40, 2), none, some (.newarray .int, 2), none, some (.putstatic 731, 3), none], [none, some (.aload_n 0, 1), some (.bipush 40, 2), none, some (.newarray .int, 2), none, some (.putstatic 732, 3), none, none, some (.aload_n 0, 1), some (.bipush 11, 2), none, some (.newarray .boolean, 2), none, some (.putstatic 733, 3), none], [none, some (.aload_n 0, 1), some (.sipush 1375, 3), none, none, some (.newarray .boolean, 2), none, some (.putstatic 736, 3), none, none, some (.aload_n 0, 1), some (.bipush 11, 2), none, some (.newarray .int, 2), none, some (.putstatic 737, 3)], [none, none, some (.aload_n 0, 1), some (.bipush 125, 2), none, some (.newarray .int, 2), none, some (.putstatic 738, 3), none, none, some (.aload_n 0, 1), some (.bipush 10, 2), none, some (.newarray .int, 2), none, some (.putstatic 741, 3)], [none, none, some (.aload_n 0, 1), some (.bipush 10, 2), none, some (.newarray .int, 2), none, some (.putstatic 742, 3), none, none, some (.aload_n 0, 1), some (.bipush 10, 2), none, some (.newarray .int, 2), none, some (.putstatic 743, 3)], [none, none, some (.aload_n 0, 1), some (.iconst 3, 1), some (.newarray .int, 2), none, some (.putstatic 744, 3), none, none, some (.aload_n 0, 1), some (.iconst 3, 1), some (.newarray .int, 2), none, some (.putstatic 745, 3), none, none], [some (.aload_n 0, 1), some (.bipush 50, 2), none, some (.newarray .int, 2), none, some (.putstatic 747, 3), none, none, some (.aload_n 0, 1), some (.bipush 24, 2), none, some (.newarray .int, 2), none, some (.putstatic 749, 3), none, none], [some (.aload_n 0, 1), some (.bipush 6, 2), none, some (.newarray .int, 2), none, some (.dup, 1), some (.iconst 0, 1), some (.iconst (-1), 1), some (.iastore, 1), some (.dup, 1), some (.iconst 1, 1), some (.iconst (-1), 1), some (.iastore, 1), some (.dup, 1), some (.iconst 2, 1), some (.iconst (-1), 1)], [some (.iastore, 1), some (.dup, 1), some (.iconst 3, 1), some (.iconst (-1), 1), some (.iastore, 1), some (.dup, 1), some (.iconst 4, 1), some (.iconst (-1), 1), some (.iastore, 1), some (.dup, 1), some (.iconst 5, 1), some (.iconst (-1), 1), some (.iastore, 1), some (.putstatic 750, 3), none, none], [some (.aload_n 0, 1), some (.bipush 6, 2), none, some (.newarray .int, 2), none, some (.putstatic 751, 3), none, none, some (.aload_n 0, 1), some (.sipush 360, 3), none, none, some (.newarray .long, 2), none, some (.putstatic 752, 3), none], [none, some (.aload_n 0, 1), some (.bipush 60, 2), none, some (.newarray .long, 2), none, some (.putstatic 753, 3), none, none, some (.return_, 1)]]
def s_cd181 : sCode := [[some (.iload_n 0, 1), some (.iload_n 1, 1), some (.if_icmp .lt 12, 3), none, none, some (.iload_n 0, 1), some (.iload_n 2, 1), some (.if_icmp .gt 7, 3), none, none, some (.iconst 1, 1), some (.goto 4, 3), none, none, some (.iconst 0, 1), some (.ireturn, 1)]]
def s_cd182 : sCode := [[some (.iconst 0, 1), some (.istore_n 1, 1), some (.iload_n 0, 1), some (.istore_n 2, 1), some (.iload_n 2, 1), some (.ifCond .eq 15, 3), none, none, some (.iinc 1 1, 3), none, none, some (.iload_n 2, 1), some (.iload_n 2, 1), some (.iconst 1, 1), some (.isub, 1), some (.iand, 1)], [some (.istore_n 2, 1), some (.goto (-13), 3), none, none, some (.iload_n 1, 1), some (.ireturn, 1)]]
def s_cd183 : sCode := [[some (.iload_n 1, 1), some (.iconst 0, 1), some (.sipush 255, 3), none, none, some (.invokestatic 1451, 3), none, none, some (.ifCond .ne 5, 3), none, none, some (.iconst (-1), 1), some (.ireturn, 1), some (.aload_n 0, 1), some (.getfield 706, 3), none], [none, some (.bipush 60, 2), none, some (.if_icmp .ne 6, 3), none, none, some (.bipush (-3), 2), none, some (.ireturn, 1), some (.aload_n 0, 1), some (.getfield 705, 3), none, none, some (.aload_n 0, 1), some (.getfield 706, 3), none], [none, some (.iload_n 1, 1), some (.i2b, 1), some (.bastore, 1), some (.aload_n 0, 1), some (.dup, 1), some (.getfield 706, 3), none, none, some (.iconst 1, 1), some (.iadd, 1), some (.putfield 706, 3), none, none, some (.aload_n 0, 1), some (.getfield 706, 3)], [none, none, some (.ireturn, 1)]]
def s_cd184 : sCode := [[some (.aload_n 0, 1), some (.getfield 707, 3), none, none, some (.aload_n 0, 1), some (.getfield 706, 3), none, none, some (.if_icmp .ge 15, 3), none, none, some (.aload_n 0, 1), some (.getfield 705, 3), none, none, some (.aload_n 0, 1)], [some (.getfield 707, 3), none, none, some (.baload, 1), some (.goto 4, 3), none, none, some (.iconst (-1), 1), some (.ireturn, 1)]]
def s_cd185 : sCode := [[some (.aload_n 0, 1), some (.getfield 708, 3), none, none, some (.ifCond .ge 11, 3), none, none, some (.aload_n 0, 1), some (.aload_n 0, 1), some (.getfield 707, 3), none, none, some (.putfield 708, 3), none, none, some (.return_, 1)]]
def s_cd186 : sCode := [[some (.aload_n 0, 1), some (.getfield 711, 3), none, none, some (.sipush 1300, 3), none, none, some (.aload_n 0, 1), some (.getfield 710, 3), none, none, some (.iadd, 1), some (.iload_n 1, 1), some (.i2b, 1), some (.bastore, 1), some (.aload_n 0, 1)], [some (.getfield 712, 3), none, none, some (.sipush 1300, 3), none, none, some (.aload_n 0, 1), some (.getfield 710, 3), none, none, some (.iadd, 1), some (.iload_n 2, 1), some (.iastore, 1), some (.aload_n 0, 1), some (.dup, 1), some (.getfield 710, 3)], [none, none, some (.iconst 1, 1), some (.iadd, 1), some (.putfield 710, 3), none, none, some (.return_, 1)]]
def s_cd187 : sCode := [[some (.iload_n 0, 1), some (.lookupswitch 71 #[(100, 65), (110, 69), (116, 67), (120, 59), (121, 61), (122, 63)], 59), none, none, none, none, none, none, none, none, none, none, none, none, none, none], [none, none, none, none, none, none, none, none, none, none, none, none, none, none, none, none], [none, none, none, none, none, none, none, none, none, none, none, none, none, none, none, none], [none, none, none, none, none, none, none, none, none, none, none, none, some (.iconst 0, 1), some (.ireturn, 1), some (.iconst 1, 1), some (.ireturn, 1)], [some (.iconst 2, 1), some (.ireturn, 1), some (.iconst 3, 1), some (.ireturn, 1), some (.iconst 4, 1), some (.ireturn, 1), some (.iconst 5, 1), some (.ireturn, 1), some (.iconst (-1), 1), some (.ireturn, 1)]]
def s_cd188 : sCode := [[some (.aload_n 0, 1), some (.getfield 709, 3), none, none, some (.bipush 6, 2), none, some (.if_icmp .ne 9, 3), none, none, some (.aload_n 0, 1), some (.invokevirtual 1480, 3), none, none, some (.iconst 0, 1), some (.ireturn, 1), some (.aload_n 0, 1)], [some (.dup, 1), some (.getfield 709, 3), none, none, some (.iconst 1, 1), some (.iadd, 1), some (.putfield 709, 3), none, none, some (.aload_n 0, 1), some (.dup, 1), some (.getfield 707, 3), none, none, some (.iconst 1, 1), some (.iadd, 1)], [some (.putfield 707, 3), none, none, some (.iconst 1, 1), some (.ireturn, 1)]]
def s_cd189 : sCode := [[some (.iconst 0, 1), some (.istore_n 1, 1), some (.iconst 0, 1), some (.istore_n 2, 1), some (.iload_n 2, 1), some (.iconst 4, 1), some (.if_icmp .ge 46, 3), none, none, some (.aload_n 0, 1), some (.invokevirtual 1472, 3), none, none, some (.bipush 48, 2), none, some (.bipush 57, 2)], [none, some (.invokestatic 1451, 3), none, none, some (.ifCond .eq 32, 3), none, none, some (.bipush 10, 2), none, some (.iload_n 1, 1), some (.imul, 1), some (.aload_n 0, 1), some (.invokevirtual 1472, 3), none, none, some (.iadd, 1)], [some (.bipush 48, 2), none, some (.isub, 1), some (.istore_n 1, 1), some (.iinc 2 1, 3), none, none, some (.aload_n 0, 1), some (.dup, 1), some (.getfield 707, 3), none, none, some (.iconst 1, 1), some (.iadd, 1), some (.putfield 707, 3), none], [none, some (.goto (-45), 3), none, none, some (.iload_n 2, 1), some (.ifCond .eq 17, 3), none, none, some (.aload_n 0, 1), some (.invokevirtual 1472, 3), none, none, some (.bipush 48, 2), none, some (.bipush 57, 2), none], [some (.invokestatic 1451, 3), none, none, some (.ifCond .eq 7, 3), none, none, some (.aload_n 0, 1), some (.invokevirtual 1480, 3), none, none, some (.aload_n 0, 1), some (.iconst 1, 1), some (.iload_n 1, 1), some (.invokevirtual 1490, 3), none, none], [some (.return_, 1)]]
def s_cd190 : sCode := [[some (.aload_n 0, 1), some (.invokevirtual 1472, 3), none, none, some (.istore_n 1, 1), some (.iload_n 1, 1), some (.invokestatic 1497, 3), none, none, some (.ifCond .lt 25, 3), none, none, some (.aload_n 0, 1), some (.iconst 2, 1), some (.iload_n 1, 1), some (.invokestatic 1497, 3)], [none, none, some (.invokevirtual 1490, 3), none, none, some (.aload_n 0, 1), some (.dup, 1), some (.getfield 707, 3), none, none, some (.iconst 1, 1), some (.iadd, 1), some (.putfield 707, 3), none, none, some (.goto 123, 3)], [none, none, some (.iload_n 1, 1), some (.bipush 33, 2), none, some (.if_icmp .eq 9, 3), none, none, some (.iload_n 1, 1), some (.bipush 45, 2), none, some (.if_icmp .ne 44, 3), none, none, some (.aload_n 0, 1), some (.invokevirtual 1504, 3)], [none, none, some (.ifCond .ne 4, 3), none, none, some (.return_, 1), some (.aload_n 0, 1), some (.invokevirtual 1520, 3), none, none, some (.aload_n 0, 1), some (.dup, 1), some (.getfield 709, 3), none, none, some (.iconst 1, 1)], [some (.isub, 1), some (.putfield 709, 3), none, none, some (.aload_n 0, 1), some (.iload_n 1, 1), some (.bipush 33, 2), none, some (.if_icmp .ne 7, 3), none, none, some (.iconst 3, 1), some (.goto 4, 3), none, none, some (.iconst 4, 1)], [some (.iconst 0, 1), some (.invokevirtual 1490, 3), none, none, some (.goto 70, 3), none, none, some (.iload_n 1, 1), some (.bipush 40, 2), none, some (.if_icmp .ne 60, 3), none, none, some (.aload_n 0, 1), some (.invokevirtual 1504, 3), none], [none, some (.ifCond .ne 4, 3), none, none, some (.return_, 1), some (.aload_n 0, 1), some (.invokevirtual 1560, 3), none, none, some (.aload_n 0, 1), some (.getfield 708, 3), none, none, some (.ifCond .lt 4, 3), none, none], [some (.return_, 1), some (.aload_n 0, 1), some (.invokevirtual 1472, 3), none, none, some (.bipush 41, 2), none, some (.if_icmp .eq 8, 3), none, none, some (.aload_n 0, 1), some (.invokevirtual 1480, 3), none, none, some (.return_, 1), some (.aload_n 0, 1)], [some (.dup, 1), some (.getfield 707, 3), none, none, some (.iconst 1, 1), some (.iadd, 1), some (.putfield 707, 3), none, none, some (.aload_n 0, 1), some (.dup, 1), some (.getfield 709, 3), none, none, some (.iconst 1, 1), some (.isub, 1)], [some (.putfield 709, 3), none, none, some (.goto 7, 3), none, none, some (.aload_n 0, 1), some (.invokevirtual 1512, 3), none, none, some (.return_, 1)]]
def s_cd191 : sCode := [[some (.aload_n 0, 1), some (.invokevirtual 1520, 3), none, none, some (.aload_n 0, 1), some (.getfield 708, 3), none, none, some (.ifCond .ge 58, 3), none, none, some (.aload_n 0, 1), some (.invokevirtual 1472, 3), none, none, some (.bipush 42, 2)], [none, some (.if_icmp .eq 21, 3), none, none, some (.aload_n 0, 1), some (.invokevirtual 1472, 3), none, none, some (.bipush 47, 2), none, some (.if_icmp .eq 12, 3), none, none, some (.aload_n 0, 1), some (.invokevirtual 1472, 3), none], [none, some (.bipush 37, 2), none, some (.if_icmp .ne 31, 3), none, none, some (.aload_n 0, 1), some (.invokevirtual 1472, 3), none, none, some (.istore_n 1, 1), some (.aload_n 0, 1), some (.dup, 1), some (.getfield 707, 3), none, none], [some (.iconst 1, 1), some (.iadd, 1), some (.putfield 707, 3), none, none, some (.aload_n 0, 1), some (.invokevirtual 1520, 3), none, none, some (.aload_n 0, 1), some (.iload_n 1, 1), some (.iconst 0, 1), some (.invokevirtual 1490, 3), none, none, some (.goto (-59), 3)], [none, none, some (.return_, 1)]]
def s_cd192 : sCode := [[some (.aload_n 0, 1), some (.invokevirtual 1528, 3), none, none, some (.aload_n 0, 1), some (.getfield 708, 3), none, none, some (.ifCond .ge 49, 3), none, none, some (.aload_n 0, 1), some (.invokevirtual 1472, 3), none, none, some (.bipush 43, 2)], [none, some (.if_icmp .eq 12, 3), none, none, some (.aload_n 0, 1), some (.invokevirtual 1472, 3), none, none, some (.bipush 45, 2), none, some (.if_icmp .ne 31, 3), none, none, some (.aload_n 0, 1), some (.invokevirtual 1472, 3), none], [none, some (.istore_n 1, 1), some (.aload_n 0, 1), some (.dup, 1), some (.getfield 707, 3), none, none, some (.iconst 1, 1), some (.iadd, 1), some (.putfield 707, 3), none, none, some (.aload_n 0, 1), some (.invokevirtual 1528, 3), none, none], [some (.aload_n 0, 1), some (.iload_n 1, 1), some (.iconst 0, 1), some (.invokevirtual 1490, 3), none, none, some (.goto (-50), 3), none, none, some (.return_, 1)]]
def s_cd193 : sCode := [[some (.aload_n 0, 1), some (.invokevirtual 1536, 3), none, none, some (.aload_n 0, 1), some (.invokevirtual 1472, 3), none, none, some (.istore_n 1, 1), some (.aload_n 0, 1), some (.getfield 708, 3), none, none, some (.ifCond .ge 21, 3), none, none], [some (.iload_n 1, 1), some (.bipush 60, 2), none, some (.if_icmp .eq 16, 3), none, none, some (.iload_n 1, 1), some (.bipush 61, 2), none, some (.if_icmp .eq 10, 3), none, none, some (.iload_n 1, 1), some (.bipush 62, 2), none, some (.if_icmp .eq 4, 3)], [none, none, some (.return_, 1), some (.aload_n 0, 1), some (.dup, 1), some (.getfield 707, 3), none, none, some (.iconst 1, 1), some (.iadd, 1), some (.putfield 707, 3), none, none, some (.aload_n 0, 1), some (.invokevirtual 1536, 3), none], [none, some (.aload_n 0, 1), some (.iload_n 1, 1), some (.iconst 0, 1), some (.invokevirtual 1490, 3), none, none, some (.return_, 1)]]
def s_cd194 : sCode := [[some (.aload_n 0, 1), some (.invokevirtual 1544, 3), none, none, some (.aload_n 0, 1), some (.getfield 708, 3), none, none, some (.ifCond .ge 36, 3), none, none, some (.aload_n 0, 1), some (.invokevirtual 1472, 3), none, none, some (.bipush 38, 2)], [none, some (.if_icmp .ne 27, 3), none, none, some (.aload_n 0, 1), some (.dup, 1), some (.getfield 707, 3), none, none, some (.iconst 1, 1), some (.iadd, 1), some (.putfield 707, 3), none, none, some (.aload_n 0, 1), some (.invokevirtual 1544, 3)], [none, none, some (.aload_n 0, 1), some (.bipush 38, 2), none, some (.iconst 0, 1), some (.invokevirtual 1490, 3), none, none, some (.goto (-37), 3), none, none, some (.return_, 1)]]
def s_cd195 : sCode := [[some (.aload_n 0, 1), some (.invokevirtual 1552, 3), none, none, some (.aload_n 0, 1), some (.getfield 708, 3), none, none, some (.ifCond .ge 36, 3), none, none, some (.aload_n 0, 1), some (.invokevirtual 1472, 3), none, none, some (.bipush 124, 2)], [none, some (.if_icmp .ne 27, 3), none, none, some (.aload_n 0, 1), some (.dup, 1), some (.getfield 707, 3), none, none, some (.iconst 1, 1), some (.iadd, 1), some (.putfield 707, 3), none, none, some (.aload_n 0, 1), some (.invokevirtual 1552, 3)], [none, none, some (.aload_n 0, 1), some (.bipush 124, 2), none, some (.iconst 0, 1), some (.invokevirtual 1490, 3), none, none, some (.goto (-37), 3), none, none, some (.return_, 1)]]
def s_cd196 : sCode := [[some (.sipush 610, 3), none, none, some (.aload_n 0, 1), some (.getfield 713, 3), none, none, some (.bipush 10, 2), none, some (.iaload, 1), some (.iadd, 1), some (.istore_n 1, 1), some (.aload_n 0, 1), some (.getfield 714, 3), none, none], [some (.iload_n 1, 1), some (.aload_n 0, 1), some (.getfield 710, 3), none, none, some (.i2s, 1), some (.sastore, 1), some (.aload_n 0, 1), some (.invokevirtual 1560, 3), none, none, some (.aload_n 0, 1), some (.getfield 708, 3), none, none, some (.ifCond .ge 37, 3)], [none, none, some (.aload_n 0, 1), some (.invokevirtual 1472, 3), none, none, some (.bipush 63, 2), none, some (.if_icmp .ne 28, 3), none, none, some (.aload_n 0, 1), some (.dup, 1), some (.getfield 707, 3), none, none], [some (.iconst 1, 1), some (.iadd, 1), some (.putfield 707, 3), none, none, some (.aload_n 0, 1), some (.getfield 714, 3), none, none, some (.iload_n 1, 1), some (.aload_n 0, 1), some (.getfield 710, 3), none, none, some (.i2s, 1), some (.sastore, 1)], [some (.aload_n 0, 1), some (.invokevirtual 1560, 3), none, none, some (.aload_n 0, 1), some (.getfield 715, 3), none, none, some (.iload_n 1, 1), some (.aload_n 0, 1), some (.getfield 710, 3), none, none, some (.i2s, 1), some (.sastore, 1), some (.aload_n 0, 1)], [some (.getfield 713, 3), none, none, some (.bipush 10, 2), none, some (.dup2, 1), some (.iaload, 1), some (.iconst 1, 1), some (.iadd, 1), some (.iastore, 1), some (.return_, 1)]]
def s_cd197 : sCode := [[some (.aload_n 0, 1), some (.iconst 0, 1), some (.putfield 707, 3), none, none, some (.aload_n 0, 1), some (.iconst (-1), 1), some (.putfield 708, 3), none, none, some (.aload_n 0, 1), some (.iconst 0, 1), some (.putfield 709, 3), none, none, some (.aload_n 0, 1)], [some (.iconst 0, 1), some (.putfield 710, 3), none, none, some (.aload_n 0, 1), some (.getfield 713, 3), none, none, some (.bipush 10, 2), none, some (.iconst 0, 1), some (.iastore, 1), some (.aload_n 0, 1), some (.invokevirtual 1568, 3), none, none], [some (.aload_n 0, 1), some (.getfield 708, 3), none, none, some (.ifCond .ge 29, 3), none, none, some (.aload_n 0, 1), some (.invokevirtual 1472, 3), none, none, some (.bipush 59, 2), none, some (.if_icmp .ne 20, 3), none, none], [some (.aload_n 0, 1), some (.dup, 1), some (.getfield 707, 3), none, none, some (.iconst 1, 1), some (.iadd, 1), some (.putfield 707, 3), none, none, some (.aload_n 0, 1), some (.invokevirtual 1568, 3), none, none, some (.goto (-30), 3), none], [none, some (.aload_n 0, 1), some (.getfield 708, 3), none, none, some (.ifCond .ge 18, 3), none, none, some (.aload_n 0, 1), some (.getfield 707, 3), none, none, some (.aload_n 0, 1), some (.getfield 706, 3), none, none], [some (.if_icmp .ge 7, 3), none, none, some (.aload_n 0, 1), some (.invokevirtual 1480, 3), none, none, some (.aload_n 0, 1), some (.iconst 0, 1), some (.putfield 706, 3), none, none, some (.aload_n 0, 1), some (.getfield 708, 3), none, none], [some (.ifCond .lt 8, 3), none, none, some (.aload_n 0, 1), some (.getfield 708, 3), none, none, some (.ireturn, 1), some (.iconst 0, 1), some (.istore_n 2, 1), some (.iload_n 2, 1), some (.aload_n 0, 1), some (.getfield 710, 3), none, none, some (.if_icmp .ge 53, 3)], [none, none, some (.aload_n 0, 1), some (.getfield 711, 3), none, none, some (.sipush 130, 3), none, none, some (.iload_n 1, 1), some (.imul, 1), some (.iload_n 2, 1), some (.iadd, 1), some (.aload_n 0, 1), some (.getfield 711, 3), none], [none, some (.sipush 1300, 3), none, none, some (.iload_n 2, 1), some (.iadd, 1), some (.baload, 1), some (.bastore, 1), some (.aload_n 0, 1), some (.getfield 712, 3), none, none, some (.sipush 130, 3), none, none, some (.iload_n 1, 1)], [some (.imul, 1), some (.iload_n 2, 1), some (.iadd, 1), some (.aload_n 0, 1), some (.getfield 712, 3), none, none, some (.sipush 1300, 3), none, none, some (.iload_n 2, 1), some (.iadd, 1), some (.iaload, 1), some (.iastore, 1), some (.iinc 2 1, 3), none], [none, some (.goto (-55), 3), none, none, some (.aload_n 0, 1), some (.getfield 713, 3), none, none, some (.iload_n 1, 1), some (.aload_n 0, 1), some (.getfield 713, 3), none, none, some (.bipush 10, 2), none, some (.iaload, 1)], [some (.iastore, 1), some (.iconst 0, 1), some (.istore_n 2, 1), some (.iload_n 2, 1), some (.aload_n 0, 1), some (.getfield 713, 3), none, none, some (.iload_n 1, 1), some (.iaload, 1), some (.if_icmp .ge 51, 3), none, none, some (.aload_n 0, 1), some (.getfield 714, 3), none], [none, some (.bipush 61, 2), none, some (.iload_n 1, 1), some (.imul, 1), some (.iload_n 2, 1), some (.iadd, 1), some (.aload_n 0, 1), some (.getfield 714, 3), none, none, some (.sipush 610, 3), none, none, some (.iload_n 2, 1), some (.iadd, 1)], [some (.saload, 1), some (.sastore, 1), some (.aload_n 0, 1), some (.getfield 715, 3), none, none, some (.bipush 61, 2), none, some (.iload_n 1, 1), some (.imul, 1), some (.iload_n 2, 1), some (.iadd, 1), some (.aload_n 0, 1), some (.getfield 715, 3), none, none], [some (.sipush 610, 3), none, none, some (.iload_n 2, 1), some (.iadd, 1), some (.saload, 1), some (.sastore, 1), some (.iinc 2 1, 3), none, none, some (.goto (-55), 3), none, none, some (.iconst (-1), 1), some (.ireturn, 1)]]
def s_cd198 : sCode := [[some (.iload_n 0, 1), some (.tableswitch 217 37 62 #[153, 203, 217, 217, 217, 127, 119, 217, 123, 217, 131, 217, 217, 217, 217, 217, 217, 217, 217, 217, 217, 217, 217, 170, 181, 192], 119), none, none, none, none, none, none, none, none, none, none, none, none, none, none], [none, none, none, none, none, none, none, none, none, none, none, none, none, none, none, none], [none, none, none, none, none, none, none, none, none, none, none, none, none, none, none, none], [none, none, none, none, none, none, none, none, none, none, none, none, none, none, none, none], [none, none, none, none, none, none, none, none, none, none, none, none, none, none, none, none], [none, none, none, none, none, none, none, none, none, none, none, none, none, none, none, none], [none, none, none, none, none, none, none, none, none, none, none, none, none, none, none, none], [none, none, none, none, none, none, none, none, some (.iload_n 1, 1), some (.iload_n 2, 1), some (.iadd, 1), some (.ireturn, 1), some (.iload_n 1, 1), some (.iload_n 2, 1), some (.isub, 1), some (.ireturn, 1)], [some (.iload_n 1, 1), some (.iload_n 2, 1), some (.imul, 1), some (.ireturn, 1), some (.iload_n 2, 1), some (.ifCond .ne 7, 3), none, none, some (.iconst 0, 1), some (.goto 16, 3), none, none, some (.iload_n 2, 1), some (.iconst (-1), 1), some (.if_icmp .ne 8, 3), none], [none, some (.iload_n 1, 1), some (.ineg, 1), some (.goto 6, 3), none, none, some (.iload_n 1, 1), some (.iload_n 2, 1), some (.idiv, 1), some (.ireturn, 1), some (.iload_n 2, 1), some (.ifCond .eq 8, 3), none, none, some (.iload_n 2, 1), some (.iconst (-1), 1)], [some (.if_icmp .ne 7, 3), none, none, some (.iconst 0, 1), some (.goto 6, 3), none, none, some (.iload_n 1, 1), some (.iload_n 2, 1), some (.irem, 1), some (.ireturn, 1), some (.iload_n 1, 1), some (.iload_n 2, 1), some (.if_icmp .ge 7, 3), none, none], [some (.iconst 1, 1), some (.goto 4, 3), none, none, some (.iconst 0, 1), some (.ireturn, 1), some (.iload_n 1, 1), some (.iload_n 2, 1), some (.if_icmp .ne 7, 3), none, none, some (.iconst 1, 1), some (.goto 4, 3), none, none, some (.iconst 0, 1)], [some (.ireturn, 1), some (.iload_n 1, 1), some (.iload_n 2, 1), some (.if_icmp .le 7, 3), none, none, some (.iconst 1, 1), some (.goto 4, 3), none, none, some (.iconst 0, 1), some (.ireturn, 1), some (.iload_n 1, 1), some (.ifCond .eq 11, 3), none, none], [some (.iload_n 2, 1), some (.ifCond .eq 7, 3), none, none, some (.iconst 1, 1), some (.goto 4, 3), none, none, some (.iconst 0, 1), some (.ireturn, 1), some (.iload_n 1, 1), some (.ifCond .ne 7, 3), none, none, some (.iload_n 2, 1), some (.ifCond .eq 7, 3)], [none, none, some (.iconst 1, 1), some (.goto 4, 3), none, none, some (.iconst 0, 1), some (.ireturn, 1)]]
def s_cd199 : sCode := [[some (.iconst 0, 1), some (.istore 4, 2), none, some (.sipush 130, 3), none, none, some (.iload_n 1, 1), some (.imul, 1), some (.iload_n 2, 1), some (.iadd, 1), some (.istore 5, 2), none, some (.iload 5, 2), none, some (.sipush 130, 3), none], [none, some (.iload_n 1, 1), some (.imul, 1), some (.iload_n 3, 1), some (.iadd, 1), some (.if_icmp .ge 167, 3), none, none, some (.aload_n 0, 1), some (.getfield 711, 3), none, none, some (.iload 5, 2), none, some (.baload, 1), some (.istore 6, 2)], [none, some (.iload 6, 2), none, some (.iconst 1, 1), some (.if_icmp .eq 9, 3), none, none, some (.iload 6, 2), none, some (.iconst 2, 1), some (.if_icmp .ne 44, 3), none, none, some (.aload_n 0, 1), some (.getfield 717, 3), none], [none, some (.iload 4, 2), none, some (.iload 6, 2), none, some (.iconst 1, 1), some (.if_icmp .ne 13, 3), none, none, some (.aload_n 0, 1), some (.getfield 712, 3), none, none, some (.iload 5, 2), none, some (.iaload, 1)], [some (.goto 15, 3), none, none, some (.aload_n 0, 1), some (.getfield 716, 3), none, none, some (.aload_n 0, 1), some (.getfield 712, 3), none, none, some (.iload 5, 2), none, some (.iaload, 1), some (.iaload, 1), some (.iastore, 1)], [some (.iinc 4 1, 3), none, none, some (.goto 99, 3), none, none, some (.iload 6, 2), none, some (.iconst 3, 1), some (.if_icmp .ne 32, 3), none, none, some (.aload_n 0, 1), some (.getfield 717, 3), none, none], [some (.iload 4, 2), none, some (.iconst 1, 1), some (.isub, 1), some (.aload_n 0, 1), some (.getfield 717, 3), none, none, some (.iload 4, 2), none, some (.iconst 1, 1), some (.isub, 1), some (.iaload, 1), some (.ifCond .ne 7, 3), none, none], [some (.iconst 1, 1), some (.goto 4, 3), none, none, some (.iconst 0, 1), some (.iastore, 1), some (.goto 64, 3), none, none, some (.iload 6, 2), none, some (.iconst 4, 1), some (.if_icmp .ne 25, 3), none, none, some (.aload_n 0, 1)], [some (.getfield 717, 3), none, none, some (.iload 4, 2), none, some (.iconst 1, 1), some (.isub, 1), some (.aload_n 0, 1), some (.getfield 717, 3), none, none, some (.iload 4, 2), none, some (.iconst 1, 1), some (.isub, 1), some (.iaload, 1)], [some (.ineg, 1), some (.iastore, 1), some (.goto 36, 3), none, none, some (.iinc 4 (-1), 3), none, none, some (.aload_n 0, 1), some (.getfield 717, 3), none, none, some (.iload 4, 2), none, some (.iconst 1, 1), some (.isub, 1)], [some (.iload 6, 2), none, some (.aload_n 0, 1), some (.getfield 717, 3), none, none, some (.iload 4, 2), none, some (.iconst 1, 1), some (.isub, 1), some (.iaload, 1), some (.aload_n 0, 1), some (.getfield 717, 3), none, none, some (.iload 4, 2)], [none, some (.iaload, 1), some (.invokestatic 1587, 3), none, none, some (.iastore, 1), some (.iinc 5 1, 3), none, none, some (.goto (-173), 3), none, none, some (.aload_n 0, 1), some (.getfield 717, 3), none, none], [some (.iconst 0, 1), some (.iaload, 1), some (.ireturn, 1)]]
def s_cd200 : sCode := [[some (.iconst 0, 1), some (.istore_n 2, 1), some (.bipush 61, 2), none, some (.iload_n 1, 1), some (.imul, 1), some (.istore_n 3, 1), some (.iload_n 3, 1), some (.bipush 61, 2), none, some (.iload_n 1, 1), some (.imul, 1), some (.aload_n 0, 1), some (.getfield 713, 3), none, none], [some (.iload_n 1, 1), some (.iaload, 1), some (.iadd, 1), some (.if_icmp .ge 59, 3), none, none, some (.aload_n 0, 1), some (.getfield 714, 3), none, none, some (.iload_n 3, 1), some (.saload, 1), some (.iload_n 2, 1), some (.if_icmp .eq 18, 3), none, none], [some (.aload_n 0, 1), some (.iload_n 1, 1), some (.iload_n 2, 1), some (.aload_n 0, 1), some (.getfield 714, 3), none, none, some (.iload_n 3, 1), some (.saload, 1), some (.invokevirtual 1595, 3), none, none, some (.ifCond .eq 21, 3), none, none, some (.aload_n 0, 1)], [some (.iload_n 1, 1), some (.aload_n 0, 1), some (.getfield 714, 3), none, none, some (.iload_n 3, 1), some (.saload, 1), some (.aload_n 0, 1), some (.getfield 715, 3), none, none, some (.iload_n 3, 1), some (.saload, 1), some (.invokevirtual 1595, 3), none, none], [some (.ireturn, 1), some (.aload_n 0, 1), some (.getfield 715, 3), none, none, some (.iload_n 3, 1), some (.saload, 1), some (.istore_n 2, 1), some (.iinc 3 1, 3), none, none, some (.goto (-68), 3), none, none, some (.iconst 0, 1), some (.ireturn, 1)]]
def s_cd201 : sCode := [[some (.iload_n 1, 1), some (.iconst 0, 1), some (.aload_n 0, 1), some (.getfield 718, 3), none, none, some (.iconst 1, 1), some (.isub, 1), some (.invokestatic 1451, 3), none, none, some (.ireturn, 1)]]
def s_cd202 : sCode := [[some (.aload_n 0, 1), some (.getfield 719, 3), none, none, some (.iload_n 1, 1), some (.iaload, 1), some (.aload_n 0, 1), some (.getfield 723, 3), none, none, some (.if_icmp .gt 7, 3), none, none, some (.iconst 1, 1), some (.goto 4, 3), none], [none, some (.iconst 0, 1), some (.ireturn, 1)]]
def s_cd203 : sCode := [[some (.aload_n 0, 1), some (.getfield 719, 3), none, none, some (.aload_n 0, 1), some (.getfield 718, 3), none, none, some (.iload_n 1, 1), some (.iastore, 1), some (.aload_n 0, 1), some (.getfield 720, 3), none, none, some (.aload_n 0, 1), some (.getfield 718, 3)], [none, none, some (.iload_n 2, 1), some (.iastore, 1), some (.aload_n 0, 1), some (.getfield 721, 3), none, none, some (.aload_n 0, 1), some (.getfield 718, 3), none, none, some (.iload_n 3, 1), some (.iastore, 1), some (.aload_n 0, 1), some (.dup, 1)], [some (.getfield 718, 3), none, none, some (.iconst 1, 1), some (.iadd, 1), some (.putfield 718, 3), none, none, some (.aload_n 0, 1), some (.getfield 718, 3), none, none, some (.iconst 1, 1), some (.isub, 1), some (.ireturn, 1)]]
def s_cd204 : sCode := [[some (.iload_n 1, 1), some (.iconst 0, 1), some (.bipush 99, 2), none, some (.invokestatic 1451, 3), none, none, some (.ifCond .eq 12, 3), none, none, some (.iload_n 2, 1), some (.iconst 0, 1), some (.iconst 2, 1), some (.invokestatic 1451, 3), none, none], [some (.ifCond .ne 5, 3), none, none, some (.iconst (-1), 1), some (.ireturn, 1), some (.aload_n 0, 1), some (.getfield 718, 3), none, none, some (.bipush 10, 2), none, some (.if_icmp .ne 6, 3), none, none, some (.bipush (-3), 2), none], [some (.ireturn, 1), some (.aload_n 0, 1), some (.aload_n 0, 1), some (.getfield 718, 3), none, none, some (.invokevirtual 1577, 3), none, none, some (.istore_n 3, 1), some (.iload_n 3, 1), some (.ifCond .lt 10, 3), none, none, some (.bipush (-100), 2), none], [some (.iload_n 3, 1), some (.isub, 1), some (.goto 10, 3), none, none, some (.aload_n 0, 1), some (.iload_n 1, 1), some (.iload_n 2, 1), some (.iconst (-1), 1), some (.invokevirtual 1627, 3), none, none, some (.ireturn, 1)]]
def s_cd205 : sCode := [[some (.aload_n 0, 1), some (.getfield 706, 3), none, none, some (.istore 4, 2), none, some (.iconst 0, 1), some (.istore 5, 2), none, some (.iload 5, 2), none, some (.iconst 3, 1), some (.if_icmp .ge 23, 3), none, none, some (.aload_n 0, 1)], [some (.getfield 726, 3), none, none, some (.iload 5, 2), none, some (.aload_n 0, 1), some (.getfield 705, 3), none, none, some (.iload 5, 2), none, some (.baload, 1), some (.bastore, 1), some (.iinc 5 1, 3), none, none], [some (.goto (-23), 3), none, none, some (.aload_n 0, 1), some (.getfield 705, 3), none, none, some (.iconst 0, 1), some (.bipush 120, 2), none, some (.iload_n 1, 1), some (.iadd, 1), some (.i2b, 1), some (.bastore, 1), some (.aload_n 0, 1), some (.getfield 705, 3)], [none, none, some (.iconst 1, 1), some (.iload_n 2, 1), some (.ifCond .ne 8, 3), none, none, some (.bipush 60, 2), none, some (.goto 15, 3), none, none, some (.iload_n 2, 1), some (.iconst 1, 1), some (.if_icmp .ne 8, 3), none], [none, some (.bipush 61, 2), none, some (.goto 5, 3), none, none, some (.bipush 62, 2), none, some (.i2b, 1), some (.bastore, 1), some (.aload_n 0, 1), some (.getfield 705, 3), none, none, some (.iconst 2, 1), some (.bipush 48, 2)], [none, some (.iload_n 3, 1), some (.iadd, 1), some (.i2b, 1), some (.bastore, 1), some (.aload_n 0, 1), some (.iconst 3, 1), some (.putfield 706, 3), none, none, some (.aload_n 0, 1), some (.aload_n 0, 1), some (.getfield 718, 3), none, none, some (.invokevirtual 1577, 3)], [none, none, some (.pop, 1), some (.iconst 0, 1), some (.istore 5, 2), none, some (.iload 5, 2), none, some (.iconst 3, 1), some (.if_icmp .ge 23, 3), none, none, some (.aload_n 0, 1), some (.getfield 705, 3), none, none], [some (.iload 5, 2), none, some (.aload_n 0, 1), some (.getfield 726, 3), none, none, some (.iload 5, 2), none, some (.baload, 1), some (.bastore, 1), some (.iinc 5 1, 3), none, none, some (.goto (-23), 3), none, none], [some (.aload_n 0, 1), some (.iload 4, 2), none, some (.putfield 706, 3), none, none, some (.return_, 1)]]
def s_cd206 : sCode := [[some (.aload_n 0, 1), some (.getfield 752, 3), none, none, some (.iload_n 1, 1), some (.laload, 1), some (.l2i, 1), some (.iconst 0, 1), some (.bipush 99, 2), none, some (.invokestatic 1451, 3), none, none, some (.ifCond .eq 94, 3), none, none], [some (.aload_n 0, 1), some (.getfield 752, 3), none, none, some (.iload_n 1, 1), some (.iconst 1, 1), some (.iadd, 1), some (.laload, 1), some (.l2i, 1), some (.iconst 0, 1), some (.iconst 2, 1), some (.invokestatic 1451, 3), none, none, some (.ifCond .eq 77, 3), none], [none, some (.aload_n 0, 1), some (.getfield 752, 3), none, none, some (.iload_n 1, 1), some (.iconst 2, 1), some (.iadd, 1), some (.laload, 1), some (.l2i, 1), some (.iconst (-1), 1), some (.bipush 9, 2), none, some (.invokestatic 1451, 3), none, none], [some (.ifCond .eq 59, 3), none, none, some (.aload_n 0, 1), some (.getfield 752, 3), none, none, some (.iload_n 1, 1), some (.iconst 3, 1), some (.iadd, 1), some (.laload, 1), some (.l2i, 1), some (.iconst 0, 1), some (.iconst 2, 1), some (.invokestatic 1451, 3), none], [none, some (.ifCond .eq 42, 3), none, none, some (.aload_n 0, 1), some (.getfield 752, 3), none, none, some (.iload_n 1, 1), some (.iconst 4, 1), some (.iadd, 1), some (.laload, 1), some (.l2i, 1), some (.iconst 0, 1), some (.iconst 2, 1), some (.invokestatic 1451, 3)], [none, none, some (.ifCond .eq 25, 3), none, none, some (.aload_n 0, 1), some (.getfield 752, 3), none, none, some (.iload_n 1, 1), some (.iconst 5, 1), some (.iadd, 1), some (.laload, 1), some (.l2i, 1), some (.iconst 0, 1), some (.bipush 9, 2)], [none, some (.invokestatic 1451, 3), none, none, some (.ifCond .eq 7, 3), none, none, some (.iconst 1, 1), some (.goto 4, 3), none, none, some (.iconst 0, 1), some (.ireturn, 1)]]
def s_cd207 : sCode := [[some (.iload_n 1, 1), some (.invokestatic 2249, 3), none, none, some (.ifCond .eq 13, 3), none, none, some (.iload_n 3, 1), some (.iconst 1, 1), some (.bipush 10, 2), none, some (.invokestatic 1451, 3), none, none, some (.ifCond .ne 5, 3), none], [none, some (.iconst (-1), 1), some (.ireturn, 1), some (.aload_n 0, 1), some (.getfield 750, 3), none, none, some (.iload_n 1, 1), some (.iaload, 1), some (.iconst (-1), 1), some (.if_icmp .eq 17, 3), none, none, some (.aload_n 0, 1), some (.getfield 750, 3), none], [none, some (.iload_n 1, 1), some (.iaload, 1), some (.bipush (-2), 2), none, some (.if_icmp .eq 6, 3), none, none, some (.bipush (-12), 2), none, some (.ireturn, 1), some (.aload_n 0, 1), some (.getfield 750, 3), none, none, some (.iload_n 1, 1)], [some (.iaload, 1), some (.iconst (-1), 1), some (.if_icmp .ne 5, 3), none, none, some (.iconst 0, 1), some (.ireturn, 1), some (.iconst 0, 1), some (.istore 4, 2), none, some (.iload 4, 2), none, some (.iload_n 3, 1), some (.if_icmp .ge 145, 3), none, none], [some (.iload_n 2, 1), some (.i2l, 1), some (.bipush 6, 2), none, some (.iload 4, 2), none, some (.imul, 1), some (.i2l, 1), some (.ladd, 1), some (.lstore 5, 2), none, some (.lload 5, 2), none, some (.lconst 0, 1), some (.lcmp, 1), some (.ifCond .lt 29, 3)], [none, none, some (.lload 5, 2), none, some (.ldc2_w 5, 3), none, none, some (.ladd, 1), some (.aload_n 0, 1), some (.getfield 751, 3), none, none, some (.iload_n 1, 1), some (.iaload, 1), some (.i2l, 1), some (.lcmp, 1)], [some (.ifCond .ge 12, 3), none, none, some (.aload_n 0, 1), some (.getfield 718, 3), none, none, some (.bipush 10, 2), none, some (.if_icmp .ne 6, 3), none, none, some (.iload 4, 2), none, some (.ireturn, 1), some (.bipush 60, 2)], [none, some (.iload_n 1, 1), some (.imul, 1), some (.lload 5, 2), none, some (.l2i, 1), some (.iadd, 1), some (.istore 7, 2), none, some (.aload_n 0, 1), some (.iload 7, 2), none, some (.invokevirtual 1649, 3), none, none, some (.ifCond .ne 6, 3)], [none, none, some (.iload 4, 2), none, some (.ireturn, 1), some (.aload_n 0, 1), some (.aload_n 0, 1), some (.getfield 752, 3), none, none, some (.iload 7, 2), none, some (.iconst 3, 1), some (.iadd, 1), some (.laload, 1), some (.l2i, 1)], [some (.aload_n 0, 1), some (.getfield 752, 3), none, none, some (.iload 7, 2), none, some (.iconst 4, 1), some (.iadd, 1), some (.laload, 1), some (.l2i, 1), some (.aload_n 0, 1), some (.getfield 752, 3), none, none, some (.iload 7, 2), none], [some (.iconst 5, 1), some (.iadd, 1), some (.laload, 1), some (.l2i, 1), some (.invokevirtual 1643, 3), none, none, some (.aload_n 0, 1), some (.aload_n 0, 1), some (.getfield 752, 3), none, none, some (.iload 7, 2), none, some (.laload, 1), some (.l2i, 1)], [some (.aload_n 0, 1), some (.getfield 752, 3), none, none, some (.iload 7, 2), none, some (.iconst 1, 1), some (.iadd, 1), some (.laload, 1), some (.l2i, 1), some (.aload_n 0, 1), some (.getfield 752, 3), none, none, some (.iload 7, 2), none], [some (.iconst 2, 1), some (.iadd, 1), some (.laload, 1), some (.l2i, 1), some (.invokevirtual 1627, 3), none, none, some (.pop, 1), some (.iinc 4 1, 3), none, none, some (.goto (-145), 3), none, none, some (.iload_n 3, 1), some (.ireturn, 1)]]
def s_cd208 : sCode := [[some (.iload_n 1, 1), some (.ifCond .ne 12, 3), none, none, some (.aload_n 0, 1), some (.getfield 719, 3), none, none, some (.iload_n 2, 1), some (.iaload, 1), some (.goto 47, 3), none, none, some (.iload_n 1, 1), some (.iconst 1, 1), some (.if_icmp .ne 12, 3)], [none, none, some (.aload_n 0, 1), some (.getfield 720, 3), none, none, some (.iload_n 2, 1), some (.iaload, 1), some (.goto 33, 3), none, none, some (.iload_n 1, 1), some (.iconst 2, 1), some (.if_icmp .ne 12, 3), none, none], [some (.aload_n 0, 1), some (.getfield 721, 3), none, none, some (.iload_n 2, 1), some (.iaload, 1), some (.goto 19, 3), none, none, some (.iload_n 1, 1), some (.iconst 3, 1), some (.if_icmp .ne 10, 3), none, none, some (.aload_n 0, 1), some (.getfield 722, 3)], [none, none, some (.goto 7, 3), none, none, some (.aload_n 0, 1), some (.getfield 723, 3), none, none, some (.ireturn, 1)]]
def s_cd209 : sCode := [[some (.iload_n 1, 1), some (.ifCond .ne 13, 3), none, none, some (.aload_n 0, 1), some (.getfield 719, 3), none, none, some (.iload_n 2, 1), some (.iload_n 3, 1), some (.iastore, 1), some (.goto 51, 3), none, none, some (.iload_n 1, 1), some (.iconst 1, 1)], [some (.if_icmp .ne 13, 3), none, none, some (.aload_n 0, 1), some (.getfield 720, 3), none, none, some (.iload_n 2, 1), some (.iload_n 3, 1), some (.iastore, 1), some (.goto 36, 3), none, none, some (.iload_n 1, 1), some (.iconst 2, 1), some (.if_icmp .ne 13, 3)], [none, none, some (.aload_n 0, 1), some (.getfield 721, 3), none, none, some (.iload_n 2, 1), some (.iload_n 3, 1), some (.iastore, 1), some (.goto 21, 3), none, none, some (.iload_n 1, 1), some (.iconst 3, 1), some (.if_icmp .ne 11, 3), none], [none, some (.aload_n 0, 1), some (.iload_n 3, 1), some (.putfield 722, 3), none, none, some (.goto 8, 3), none, none, some (.aload_n 0, 1), some (.iload_n 3, 1), some (.putfield 723, 3), none, none, some (.return_, 1)]]
def s_cd210 : sCode := [[some (.aload_n 0, 1), some (.iload_n 1, 1), some (.iload_n 2, 1), some (.invokevirtual 1666, 3), none, none, some (.istore 4, 2), none, some (.iload 4, 2), none, some (.iload_n 3, 1), some (.if_icmp .ne 6, 3), none, none, some (.iload 4, 2), none], [some (.ireturn, 1), some (.aload_n 0, 1), some (.iconst 0, 1), some (.putfield 728, 3), none, none, some (.aload_n 0, 1), some (.getfield 727, 3), none, none, some (.bipush 40, 2), none, some (.if_icmp .ne 93, 3), none, none, some (.iconst 1, 1)], [some (.istore 5, 2), none, some (.iload 5, 2), none, some (.bipush 40, 2), none, some (.if_icmp .ge 73, 3), none, none, some (.aload_n 0, 1), some (.getfield 729, 3), none, none, some (.iload 5, 2), none, some (.iconst 1, 1)], [some (.isub, 1), some (.aload_n 0, 1), some (.getfield 729, 3), none, none, some (.iload 5, 2), none, some (.iaload, 1), some (.iastore, 1), some (.aload_n 0, 1), some (.getfield 730, 3), none, none, some (.iload 5, 2), none, some (.iconst 1, 1)], [some (.isub, 1), some (.aload_n 0, 1), some (.getfield 730, 3), none, none, some (.iload 5, 2), none, some (.iaload, 1), some (.iastore, 1), some (.aload_n 0, 1), some (.getfield 731, 3), none, none, some (.iload 5, 2), none, some (.iconst 1, 1)], [some (.isub, 1), some (.aload_n 0, 1), some (.getfield 731, 3), none, none, some (.iload 5, 2), none, some (.iaload, 1), some (.iastore, 1), some (.aload_n 0, 1), some (.getfield 732, 3), none, none, some (.iload 5, 2), none, some (.iconst 1, 1)], [some (.isub, 1), some (.aload_n 0, 1), some (.getfield 732, 3), none, none, some (.iload 5, 2), none, some (.iaload, 1), some (.iastore, 1), some (.iinc 5 1, 3), none, none, some (.goto (-74), 3), none, none, some (.aload_n 0, 1)], [some (.dup, 1), some (.getfield 727, 3), none, none, some (.iconst 1, 1), some (.isub, 1), some (.putfield 727, 3), none, none, some (.aload_n 0, 1), some (.getfield 729, 3), none, none, some (.aload_n 0, 1), some (.getfield 727, 3), none], [none, some (.iload_n 1, 1), some (.iastore, 1), some (.aload_n 0, 1), some (.getfield 730, 3), none, none, some (.aload_n 0, 1), some (.getfield 727, 3), none, none, some (.iload_n 2, 1), some (.iastore, 1), some (.aload_n 0, 1), some (.getfield 731, 3), none], [none, some (.aload_n 0, 1), some (.getfield 727, 3), none, none, some (.iload 4, 2), none, some (.iastore, 1), some (.aload_n 0, 1), some (.getfield 732, 3), none, none, some (.aload_n 0, 1), some (.getfield 727, 3), none, none], [some (.iload_n 3, 1), some (.iastore, 1), some (.aload_n 0, 1), some (.dup, 1), some (.getfield 727, 3), none, none, some (.iconst 1, 1), some (.iadd, 1), some (.putfield 727, 3), none, none, some (.aload_n 0, 1), some (.iload_n 1, 1), some (.iload_n 2, 1), some (.iload_n 3, 1)], [some (.invokevirtual 1675, 3), none, none, some (.iload 4, 2), none, some (.ireturn, 1)]]
def s_cd211 : sCode := [[some (.aload_n 0, 1), some (.getfield 727, 3), none, none, some (.ifCond .ne 6, 3), none, none, some (.bipush (-5), 2), none, some (.ireturn, 1), some (.aload_n 0, 1), some (.dup, 1), some (.getfield 727, 3), none, none, some (.iconst 1, 1)], [some (.isub, 1), some (.putfield 727, 3), none, none, some (.aload_n 0, 1), some (.dup, 1), some (.getfield 728, 3), none, none, some (.iconst 1, 1), some (.iadd, 1), some (.putfield 728, 3), none, none, some (.aload_n 0, 1), some (.aload_n 0, 1)], [some (.getfield 729, 3), none, none, some (.aload_n 0, 1), some (.getfield 727, 3), none, none, some (.iaload, 1), some (.aload_n 0, 1), some (.getfield 730, 3), none, none, some (.aload_n 0, 1), some (.getfield 727, 3), none, none], [some (.iaload, 1), some (.aload_n 0, 1), some (.getfield 731, 3), none, none, some (.aload_n 0, 1), some (.getfield 727, 3), none, none, some (.iaload, 1), some (.invokevirtual 1675, 3), none, none, some (.aload_n 0, 1), some (.getfield 727, 3), none], [none, some (.ireturn, 1)]]
def s_cd212 : sCode := [[some (.aload_n 0, 1), some (.getfield 728, 3), none, none, some (.ifCond .ne 6, 3), none, none, some (.bipush (-5), 2), none, some (.ireturn, 1), some (.aload_n 0, 1), some (.aload_n 0, 1), some (.getfield 729, 3), none, none, some (.aload_n 0, 1)], [some (.getfield 727, 3), none, none, some (.iaload, 1), some (.aload_n 0, 1), some (.getfield 730, 3), none, none, some (.aload_n 0, 1), some (.getfield 727, 3), none, none, some (.iaload, 1), some (.aload_n 0, 1), some (.getfield 732, 3), none], [none, some (.aload_n 0, 1), some (.getfield 727, 3), none, none, some (.iaload, 1), some (.invokevirtual 1675, 3), none, none, some (.aload_n 0, 1), some (.dup, 1), some (.getfield 727, 3), none, none, some (.iconst 1, 1), some (.iadd, 1)], [some (.putfield 727, 3), none, none, some (.aload_n 0, 1), some (.dup, 1), some (.getfield 728, 3), none, none, some (.iconst 1, 1), some (.isub, 1), some (.putfield 728, 3), none, none, some (.aload_n 0, 1), some (.getfield 728, 3), none], [none, some (.ireturn, 1)]]
def s_cd213 : sCode := [[some (.iload_n 2, 1), some (.tableswitch 180 0 4 #[35, 66, 96, 127, 153], 35), none, none, none, none, none, none, none, none, none, none, none, none, none, none], [none, none, none, none, none, none, none, none, none, none, none, none, none, none, none, none], [none, none, none, none, some (.aload_n 0, 1), some (.iload_n 1, 1), some (.invokevirtual 1609, 3), none, none, some (.ifCond .eq 23, 3), none, none, some (.iload_n 3, 1), some (.iconst 0, 1), some (.bipush 99, 2), none], [some (.invokestatic 1451, 3), none, none, some (.ifCond .eq 13, 3), none, none, some (.aload_n 0, 1), some (.iconst 0, 1), some (.iload_n 1, 1), some (.iload_n 3, 1), some (.invokevirtual 1683, 3), none, none, some (.goto 5, 3), none, none], [some (.ldc 2294967296, 2), none, some (.ireturn, 1), some (.aload_n 0, 1), some (.iload_n 1, 1), some (.invokevirtual 1609, 3), none, none, some (.ifCond .eq 22, 3), none, none, some (.iload_n 3, 1), some (.iconst 0, 1), some (.iconst 2, 1), some (.invokestatic 1451, 3), none], [none, some (.ifCond .eq 13, 3), none, none, some (.aload_n 0, 1), some (.iconst 1, 1), some (.iload_n 1, 1), some (.iload_n 3, 1), some (.invokevirtual 1683, 3), none, none, some (.goto 5, 3), none, none, some (.ldc 2294967296, 2), none], [some (.ireturn, 1), some (.aload_n 0, 1), some (.iload_n 1, 1), some (.invokevirtual 1609, 3), none, none, some (.ifCond .eq 23, 3), none, none, some (.iload_n 3, 1), some (.iconst (-1), 1), some (.bipush 9, 2), none, some (.invokestatic 1451, 3), none, none], [some (.ifCond .eq 13, 3), none, none, some (.aload_n 0, 1), some (.iconst 2, 1), some (.iload_n 1, 1), some (.iload_n 3, 1), some (.invokevirtual 1683, 3), none, none, some (.goto 5, 3), none, none, some (.ldc 2294967296, 2), none, some (.ireturn, 1)], [some (.iload_n 1, 1), some (.ifCond .ne 22, 3), none, none, some (.iload_n 3, 1), some (.iconst 0, 1), some (.iconst 3, 1), some (.invokestatic 1451, 3), none, none, some (.ifCond .eq 13, 3), none, none, some (.aload_n 0, 1), some (.iconst 3, 1), some (.iconst 0, 1)], [some (.iload_n 3, 1), some (.invokevirtual 1683, 3), none, none, some (.goto 5, 3), none, none, some (.ldc 2294967296, 2), none, some (.ireturn, 1), some (.iload_n 1, 1), some (.ifCond .ne 23, 3), none, none, some (.iload_n 3, 1), some (.iconst 0, 1)], [some (.bipush 99, 2), none, some (.invokestatic 1451, 3), none, none, some (.ifCond .eq 13, 3), none, none, some (.aload_n 0, 1), some (.iconst 4, 1), some (.iconst 0, 1), some (.iload_n 3, 1), some (.invokevirtual 1683, 3), none, none, some (.goto 5, 3)], [none, none, some (.ldc 2294967296, 2), none, some (.ireturn, 1), some (.ldc 2294967296, 2), none, some (.ireturn, 1)]]
def s_cd214 : sCode := [[some (.iload_n 1, 1), some (.iconst 0, 1), some (.iconst 2, 1), some (.invokestatic 1451, 3), none, none, some (.ifCond .ne 5, 3), none, none, some (.iconst (-1), 1), some (.ireturn, 1), some (.iload_n 2, 1), some (.iconst (-1), 1), some (.if_icmp .ne 12, 3), none, none], [some (.aload_n 0, 1), some (.getfield 724, 3), none, none, some (.iload_n 1, 1), some (.iconst (-1), 1), some (.iastore, 1), some (.iconst 1, 1), some (.ireturn, 1), some (.iload_n 2, 1), some (.iconst 0, 1), some (.iconst 2, 1), some (.invokestatic 1451, 3), none, none, some (.ifCond .eq 18, 3)], [none, none, some (.iload_n 2, 1), some (.iload_n 1, 1), some (.if_icmp .eq 13, 3), none, none, some (.iload_n 3, 1), some (.iconst 0, 1), some (.bipush 99, 2), none, some (.invokestatic 1451, 3), none, none, some (.ifCond .ne 5, 3), none], [none, some (.iconst (-1), 1), some (.ireturn, 1), some (.aload_n 0, 1), some (.getfield 724, 3), none, none, some (.iload_n 1, 1), some (.iload_n 2, 1), some (.iastore, 1), some (.aload_n 0, 1), some (.getfield 725, 3), none, none, some (.iload_n 1, 1), some (.iload_n 3, 1)], [some (.iastore, 1), some (.iconst 1, 1), some (.ireturn, 1)]]
def s_cd215 : sCode := [[some (.aload_n 0, 1), some (.getfield 724, 3), none, none, some (.iload_n 1, 1), some (.iaload, 1), some (.ifCond .lt 25, 3), none, none, some (.aload_n 0, 1), some (.getfield 725, 3), none, none, some (.iload_n 1, 1), some (.iaload, 1), some (.aload_n 0, 1)], [some (.getfield 723, 3), none, none, some (.if_icmp .gt 12, 3), none, none, some (.aload_n 0, 1), some (.getfield 724, 3), none, none, some (.iload_n 1, 1), some (.iaload, 1), some (.goto 4, 3), none, none, some (.iload_n 1, 1)], [some (.ireturn, 1)]]
def s_cd216 : sCode := [[some (.iload_n 1, 1), some (.aload_n 0, 1), some (.getfield 735, 3), none, none, some (.if_icmp .ne 7, 3), none, none, some (.iconst (-1), 1), some (.goto 14, 3), none, none, some (.bipush 11, 2), none, some (.aload_n 0, 1), some (.getfield 719, 3)], [none, none, some (.iload_n 1, 1), some (.iaload, 1), some (.imul, 1), some (.iload_n 1, 1), some (.iadd, 1), some (.ireturn, 1)]]
def s_cd217 : sCode := [[some (.aload_n 0, 1), some (.iload_n 1, 1), some (.invokevirtual 1729, 3), none, none, some (.aload_n 0, 1), some (.iload_n 2, 1), some (.invokevirtual 1729, 3), none, none, some (.if_icmp .ge 7, 3), none, none, some (.iconst 1, 1), some (.goto 4, 3), none], [none, some (.iconst 0, 1), some (.ireturn, 1)]]
def s_cd218 : sCode := [[some (.aload_n 0, 1), some (.iload_n 1, 1), some (.invokevirtual 1617, 3), none, none, some (.ifCond .eq 18, 3), none, none, some (.aload_n 0, 1), some (.getfield 734, 3), none, none, some (.iload_n 1, 1), some (.ishr, 1), some (.iconst 1, 1), some (.iand, 1)], [some (.ifCond .ne 7, 3), none, none, some (.iconst 1, 1), some (.goto 4, 3), none, none, some (.iconst 0, 1), some (.ireturn, 1)]]
def s_cd219 : sCode := [[some (.aload_n 0, 1), some (.iload_n 1, 1), some (.putfield 734, 3), none, none, some (.aload_n 0, 1), some (.iload_n 2, 1), some (.putfield 735, 3), none, none, some (.iconst 0, 1), some (.istore_n 3, 1), some (.iload_n 3, 1), some (.aload_n 0, 1), some (.getfield 718, 3), none], [none, some (.if_icmp .ge 16, 3), none, none, some (.aload_n 0, 1), some (.getfield 733, 3), none, none, some (.iload_n 3, 1), some (.iconst 0, 1), some (.bastore, 1), some (.iinc 3 1, 3), none, none, some (.goto (-18), 3), none], [none, some (.iconst 0, 1), some (.istore_n 3, 1), some (.iconst 0, 1), some (.istore 4, 2), none, some (.iload 4, 2), none, some (.aload_n 0, 1), some (.getfield 718, 3), none, none, some (.if_icmp .ge 137, 3), none, none, some (.iconst (-1), 1)], [some (.istore 5, 2), none, some (.iconst 0, 1), some (.istore 6, 2), none, some (.iload 6, 2), none, some (.aload_n 0, 1), some (.getfield 718, 3), none, none, some (.if_icmp .ge 38, 3), none, none, some (.iload_n 3, 1), some (.iload 6, 2)], [none, some (.ishr, 1), some (.iconst 1, 1), some (.iand, 1), some (.ifCond .ne 23, 3), none, none, some (.iload 5, 2), none, some (.ifCond .lt 14, 3), none, none, some (.aload_n 0, 1), some (.iload 6, 2), none, some (.iload 5, 2)], [none, some (.invokevirtual 1738, 3), none, none, some (.ifCond .eq 7, 3), none, none, some (.iload 6, 2), none, some (.istore 5, 2), none, some (.iinc 6 1, 3), none, none, some (.goto (-41), 3), none], [none, some (.iload_n 3, 1), some (.iconst 1, 1), some (.iload 5, 2), none, some (.ishl, 1), some (.ior, 1), some (.istore_n 3, 1), some (.aload_n 0, 1), some (.iload 5, 2), none, some (.invokevirtual 1745, 3), none, none, some (.istore 6, 2), none], [some (.iconst 0, 1), some (.istore 7, 2), none, some (.iload 7, 2), none, some (.aload_n 0, 1), some (.getfield 718, 3), none, none, some (.if_icmp .ge 45, 3), none, none, some (.aload_n 0, 1), some (.getfield 733, 3), none, none], [some (.iload 7, 2), none, some (.baload, 1), some (.ifCond .eq 29, 3), none, none, some (.aload_n 0, 1), some (.getfield 721, 3), none, none, some (.iload 7, 2), none, some (.iaload, 1), some (.iload 5, 2), none, some (.if_icmp .ne 17, 3)], [none, none, some (.aload_n 0, 1), some (.iload 7, 2), none, some (.iload 5, 2), none, some (.invokevirtual 1738, 3), none, none, some (.ifCond .eq 6, 3), none, none, some (.iconst 0, 1), some (.istore 6, 2), none], [some (.iinc 7 1, 3), none, none, some (.goto (-48), 3), none, none, some (.aload_n 0, 1), some (.getfield 733, 3), none, none, some (.iload 5, 2), none, some (.iload 6, 2), none, some (.bastore, 1), some (.iinc 4 1, 3)], [none, none, some (.goto (-140), 3), none, none, some (.return_, 1)]]
def s_cd220 : sCode := [[some (.iload_n 1, 1), some (.ifCond .ne 10, 3), none, none, some (.iload_n 0, 1), some (.bipush 25, 2), none, some (.idiv, 1), some (.goto 19, 3), none, none, some (.iload_n 1, 1), some (.iconst 1, 1), some (.if_icmp .ne 11, 3), none, none], [some (.iload_n 0, 1), some (.iconst 5, 1), some (.idiv, 1), some (.iconst 5, 1), some (.irem, 1), some (.goto 6, 3), none, none, some (.iload_n 0, 1), some (.iconst 5, 1), some (.irem, 1), some (.ireturn, 1)]]
def s_cd221 : sCode := [[some (.iconst 0, 1), some (.istore_n 3, 1), some (.iload_n 3, 1), some (.iconst 3, 1), some (.if_icmp .ge 24, 3), none, none, some (.aload_n 0, 1), some (.getfield 716, 3), none, none, some (.iload_n 3, 1), some (.iload_n 2, 1), some (.aload_n 0, 1), some (.iload_n 3, 1), some (.invokevirtual 1721, 3)], [none, none, some (.invokestatic 1762, 3), none, none, some (.iastore, 1), some (.iinc 3 1, 3), none, none, some (.goto (-23), 3), none, none, some (.aload_n 0, 1), some (.getfield 716, 3), none, none], [some (.iconst 3, 1), some (.aload_n 0, 1), some (.getfield 719, 3), none, none, some (.iload_n 1, 1), some (.iaload, 1), some (.iastore, 1), some (.aload_n 0, 1), some (.getfield 716, 3), none, none, some (.iconst 4, 1), some (.aload_n 0, 1), some (.getfield 723, 3), none], [none, some (.iastore, 1), some (.aload_n 0, 1), some (.getfield 716, 3), none, none, some (.iconst 5, 1), some (.iload_n 1, 1), some (.iastore, 1), some (.aload_n 0, 1), some (.iload_n 1, 1), some (.invokevirtual 1601, 3), none, none, some (.ifCond .eq 7, 3), none], [none, some (.iconst 1, 1), some (.goto 4, 3), none, none, some (.iconst 0, 1), some (.ireturn, 1)]]
def s_cd222 : sCode := [[some (.iconst 0, 1), some (.istore_n 1, 1), some (.iload_n 1, 1), some (.aload_n 0, 1), some (.getfield 718, 3), none, none, some (.if_icmp .ge 71, 3), none, none, some (.aload_n 0, 1), some (.getfield 737, 3), none, none, some (.iload_n 1, 1), some (.iconst 0, 1)], [some (.iastore, 1), some (.iconst 0, 1), some (.istore_n 2, 1), some (.iload_n 2, 1), some (.bipush 125, 2), none, some (.if_icmp .ge 50, 3), none, none, some (.aload_n 0, 1), some (.getfield 736, 3), none, none, some (.bipush 125, 2), none, some (.iload_n 1, 1)], [some (.imul, 1), some (.iload_n 2, 1), some (.iadd, 1), some (.aload_n 0, 1), some (.iload_n 1, 1), some (.iload_n 2, 1), some (.invokevirtual 1770, 3), none, none, some (.bastore, 1), some (.aload_n 0, 1), some (.getfield 736, 3), none, none, some (.bipush 125, 2), none], [some (.iload_n 1, 1), some (.imul, 1), some (.iload_n 2, 1), some (.iadd, 1), some (.baload, 1), some (.ifCond .eq 13, 3), none, none, some (.aload_n 0, 1), some (.getfield 737, 3), none, none, some (.iload_n 1, 1), some (.dup2, 1), some (.iaload, 1), some (.iconst 1, 1)], [some (.iadd, 1), some (.iastore, 1), some (.iinc 2 1, 3), none, none, some (.goto (-50), 3), none, none, some (.iinc 1 1, 3), none, none, some (.goto (-73), 3), none, none, some (.return_, 1)]]
def s_cd223 : sCode := [[some (.aload_n 0, 1), some (.invokevirtual 1776, 3), none, none, some (.aload_n 0, 1), some (.iconst 0, 1), some (.iconst (-1), 1), some (.invokevirtual 1754, 3), none, none, some (.return_, 1)]]
def s_cd224 : sCode := [[some (.iload_n 0, 1), some (.bipush 100, 2), none, some (.idiv, 1), some (.bipush 25, 2), none, some (.imul, 1), some (.iload_n 0, 1), some (.bipush 10, 2), none, some (.idiv, 1), some (.bipush 10, 2), none, some (.irem, 1), some (.iconst 5, 1), some (.imul, 1)], [some (.iadd, 1), some (.iload_n 0, 1), some (.bipush 10, 2), none, some (.irem, 1), some (.iadd, 1), some (.ireturn, 1)]]
def s_cd225 : sCode := [[some (.bipush 100, 2), none, some (.iload_n 0, 1), some (.bipush 25, 2), none, some (.idiv, 1), some (.imul, 1), some (.bipush 10, 2), none, some (.iload_n 0, 1), some (.iconst 5, 1), some (.idiv, 1), some (.iconst 5, 1), some (.irem, 1), some (.imul, 1), some (.iadd, 1)], [some (.iload_n 0, 1), some (.iconst 5, 1), some (.irem, 1), some (.iadd, 1), some (.ireturn, 1)]]
def s_cd226 : sCode := [[some (.iload_n 0, 1), some (.iconst 0, 1), some (.sipush 444, 3), none, none, some (.invokestatic 1451, 3), none, none, some (.ifCond .eq 26, 3), none, none, some (.iload_n 0, 1), some (.bipush 10, 2), none, some (.idiv, 1), some (.bipush 10, 2)], [none, some (.irem, 1), some (.iconst 4, 1), some (.if_icmp .gt 15, 3), none, none, some (.iload_n 0, 1), some (.bipush 10, 2), none, some (.irem, 1), some (.iconst 4, 1), some (.if_icmp .gt 7, 3), none, none, some (.iconst 1, 1), some (.goto 4, 3)], [none, none, some (.iconst 0, 1), some (.ireturn, 1)]]
def s_cd227 : sCode := [[some (.iconst 0, 1), some (.istore_n 1, 1), some (.iconst 0, 1), some (.istore_n 2, 1), some (.iload_n 2, 1), some (.aload_n 0, 1), some (.getfield 718, 3), none, none, some (.if_icmp .ge 21, 3), none, none, some (.aload_n 0, 1), some (.getfield 733, 3), none, none], [some (.iload_n 2, 1), some (.baload, 1), some (.ifCond .eq 6, 3), none, none, some (.iinc 1 1, 3), none, none, some (.iinc 2 1, 3), none, none, some (.goto (-23), 3), none, none, some (.iload_n 1, 1), some (.ireturn, 1)]]
def s_cd228 : sCode := [[some (.iconst 0, 1), some (.istore_n 1, 1), some (.iconst 0, 1), some (.istore_n 2, 1), some (.iload_n 2, 1), some (.aload_n 0, 1), some (.getfield 718, 3), none, none, some (.if_icmp .ge 20, 3), none, none, some (.aload_n 0, 1), some (.iload_n 2, 1), some (.invokevirtual 1617, 3), none], [none, some (.ifCond .eq 6, 3), none, none, some (.iinc 1 1, 3), none, none, some (.iinc 2 1, 3), none, none, some (.goto (-22), 3), none, none, some (.iload_n 1, 1), some (.ireturn, 1)]]
def s_cd229 : sCode := [[some (.iload_n 2, 1), some (.bipush 10, 2), none, some (.if_icmp .ne 23, 3), none, none, some (.iload_n 1, 1), some (.iconst 0, 1), some (.iconst 2, 1), some (.invokestatic 1451, 3), none, none, some (.ifCond .eq 11, 3), none, none, some (.aload_n 0, 1)], [some (.iload_n 1, 1), some (.invokevirtual 1721, 3), none, none, some (.goto 5, 3), none, none, some (.ldc 2294967296, 2), none, some (.ireturn, 1), some (.iload_n 2, 1), some (.bipush 20, 2), none, some (.bipush 21, 2), none, some (.invokestatic 1451, 3)], [none, none, some (.ifCond .eq 30, 3), none, none, some (.iload_n 1, 1), some (.ifCond .eq 8, 3), none, none, some (.ldc 2294967296, 2), none, some (.goto 20, 3), none, none, some (.iload_n 2, 1), some (.bipush 20, 2)], [none, some (.if_icmp .ne 10, 3), none, none, some (.aload_n 0, 1), some (.getfield 722, 3), none, none, some (.goto 7, 3), none, none, some (.aload_n 0, 1), some (.getfield 723, 3), none, none, some (.ireturn, 1)], [some (.iload_n 2, 1), some (.iconst 0, 1), some (.iconst 5, 1), some (.invokestatic 1451, 3), none, none, some (.ifCond .eq 11, 3), none, none, some (.aload_n 0, 1), some (.iload_n 1, 1), some (.invokevirtual 1609, 3), none, none, some (.ifCond .ne 6, 3), none], [none, some (.ldc 2294967296, 2), none, some (.ireturn, 1), some (.aload_n 0, 1), some (.invokevirtual 1784, 3), none, none, some (.iload_n 2, 1), some (.tableswitch 85 0 4 #[35, 42, 49, 56, 70], 35), none, none, none, none, none, none], [none, none, none, none, none, none, none, none, none, none, none, none, none, none, none, none], [none, none, none, none, none, none, none, none, none, none, none, none, some (.aload_n 0, 1), some (.getfield 719, 3), none, none], [some (.iload_n 1, 1), some (.iaload, 1), some (.ireturn, 1), some (.aload_n 0, 1), some (.getfield 720, 3), none, none, some (.iload_n 1, 1), some (.iaload, 1), some (.ireturn, 1), some (.aload_n 0, 1), some (.getfield 721, 3), none, none, some (.iload_n 1, 1), some (.iaload, 1)], [some (.ireturn, 1), some (.aload_n 0, 1), some (.iload_n 1, 1), some (.invokevirtual 1617, 3), none, none, some (.ifCond .eq 7, 3), none, none, some (.iconst 1, 1), some (.goto 4, 3), none, none, some (.iconst 0, 1), some (.ireturn, 1), some (.aload_n 0, 1)], [some (.getfield 733, 3), none, none, some (.iload_n 1, 1), some (.baload, 1), some (.ifCond .eq 7, 3), none, none, some (.iconst 1, 1), some (.goto 4, 3), none, none, some (.iconst 0, 1), some (.ireturn, 1), some (.aload_n 0, 1), some (.getfield 737, 3)], [none, none, some (.iload_n 1, 1), some (.iaload, 1), some (.ireturn, 1)]]
def s_cd230 : sCode := [[some (.iload_n 0, 1), some (.iconst 1, 1), some (.if_icmp .ne 7, 3), none, none, some (.iconst 0, 1), some (.goto 12, 3), none, none, some (.iload_n 0, 1), some (.ifCond .ne 7, 3), none, none, some (.iconst 1, 1), some (.goto 4, 3), none], [none, some (.iconst 2, 1), some (.ireturn, 1)]]
def s_cd231 : sCode := [[some (.iload_n 3, 1), some (.iconst 1, 1), some (.if_icmp .ne 10, 3), none, none, some (.aload_n 0, 1), some (.iload_n 2, 1), some (.iload_n 1, 1), some (.invokevirtual 1738, 3), none, none, some (.ireturn, 1), some (.iload_n 3, 1), some (.iconst 2, 1), some (.if_icmp .ne 12, 3), none], [none, some (.aload_n 0, 1), some (.getfield 737, 3), none, none, some (.iload_n 1, 1), some (.iaload, 1), some (.goto 21, 3), none, none, some (.iload_n 3, 1), some (.iconst 3, 1), some (.if_icmp .ne 15, 3), none, none, some (.aload_n 0, 1)], [some (.getfield 720, 3), none, none, some (.iload_n 1, 1), some (.iaload, 1), some (.invokestatic 1841, 3), none, none, some (.goto 4, 3), none, none, some (.iconst 0, 1), some (.istore 4, 2), none, some (.iload_n 3, 1), some (.iconst 2, 1)], [some (.if_icmp .ne 12, 3), none, none, some (.aload_n 0, 1), some (.getfield 737, 3), none, none, some (.iload_n 2, 1), some (.iaload, 1), some (.goto 21, 3), none, none, some (.iload_n 3, 1), some (.iconst 3, 1), some (.if_icmp .ne 15, 3), none], [none, some (.aload_n 0, 1), some (.getfield 720, 3), none, none, some (.iload_n 2, 1), some (.iaload, 1), some (.invokestatic 1841, 3), none, none, some (.goto 4, 3), none, none, some (.iconst 0, 1), some (.istore 5, 2), none], [some (.iload 4, 2), none, some (.iload 5, 2), none, some (.if_icmp .lt 19, 3), none, none, some (.iload 4, 2), none, some (.iload 5, 2), none, some (.if_icmp .ne 16, 3), none, none, some (.aload_n 0, 1), some (.iload_n 1, 1)], [some (.iload_n 2, 1), some (.invokevirtual 1738, 3), none, none, some (.ifCond .eq 7, 3), none, none, some (.iconst 1, 1), some (.goto 4, 3), none, none, some (.iconst 0, 1), some (.ireturn, 1)]]
def s_cd232 : sCode := [[some (.iconst (-1), 1), some (.istore_n 3, 1), some (.iconst 0, 1), some (.istore 4, 2), none, some (.iload 4, 2), none, some (.aload_n 0, 1), some (.getfield 718, 3), none, none, some (.if_icmp .ge 52, 3), none, none, some (.aload_n 0, 1), some (.getfield 733, 3)], [none, none, some (.iload 4, 2), none, some (.baload, 1), some (.ifCond .eq 36, 3), none, none, some (.aload_n 0, 1), some (.getfield 736, 3), none, none, some (.bipush 125, 2), none, some (.iload 4, 2), none], [some (.imul, 1), some (.iload_n 1, 1), some (.iadd, 1), some (.baload, 1), some (.ifCond .eq 21, 3), none, none, some (.iload_n 3, 1), some (.ifCond .lt 14, 3), none, none, some (.aload_n 0, 1), some (.iload 4, 2), none, some (.iload_n 3, 1), some (.iload_n 2, 1)], [some (.invokevirtual 1851, 3), none, none, some (.ifCond .eq 6, 3), none, none, some (.iload 4, 2), none, some (.istore_n 3, 1), some (.iinc 4 1, 3), none, none, some (.goto (-55), 3), none, none, some (.iload_n 3, 1)], [some (.ireturn, 1)]]
def s_cd233 : sCode := [[some (.aload_n 0, 1), some (.iload_n 1, 1), some (.iload_n 2, 1), some (.invokevirtual 1858, 3), none, none, some (.istore_n 3, 1), some (.iload_n 3, 1), some (.ifCond .ge 8, 3), none, none, some (.bipush (-2), 2), none, some (.goto 9, 3), none, none], [some (.aload_n 0, 1), some (.getfield 720, 3), none, none, some (.iload_n 3, 1), some (.iaload, 1), some (.ireturn, 1)]]
def s_cd234 : sCode := [[some (.aload_n 0, 1), some (.iload_n 1, 1), some (.invokevirtual 1609, 3), none, none, some (.ifCond .eq 10, 3), none, none, some (.iload_n 2, 1), some (.invokestatic 1809, 3), none, none, some (.ifCond .ne 5, 3), none, none, some (.iconst (-1), 1)], [some (.ireturn, 1), some (.aload_n 0, 1), some (.iload_n 1, 1), some (.iload_n 2, 1), some (.invokestatic 1793, 3), none, none, some (.invokevirtual 1770, 3), none, none, some (.ifCond .eq 7, 3), none, none, some (.iconst 1, 1), some (.goto 4, 3), none], [none, some (.iconst 0, 1), some (.ireturn, 1)]]
def s_cd235 : sCode := [[some (.iload_n 1, 1), some (.invokestatic 1809, 3), none, none, some (.ifCond .eq 12, 3), none, none, some (.iload_n 2, 1), some (.iconst 0, 1), some (.iconst 2, 1), some (.invokestatic 1451, 3), none, none, some (.ifCond .ne 5, 3), none, none], [some (.iconst (-1), 1), some (.ireturn, 1), some (.aload_n 0, 1), some (.invokevirtual 1784, 3), none, none, some (.iload_n 1, 1), some (.invokestatic 1793, 3), none, none, some (.istore_n 3, 1), some (.aload_n 0, 1), some (.iload_n 3, 1), some (.aload_n 0, 1), some (.getfield 722, 3), none], [none, some (.invokevirtual 1858, 3), none, none, some (.istore 4, 2), none, some (.iload 4, 2), none, some (.ifCond .ge 6, 3), none, none, some (.bipush (-2), 2), none, some (.ireturn, 1), some (.iload_n 2, 1), some (.iconst 2, 1)], [some (.if_icmp .ge 20, 3), none, none, some (.iload_n 2, 1), some (.ifCond .ne 13, 3), none, none, some (.aload_n 0, 1), some (.getfield 720, 3), none, none, some (.iload 4, 2), none, some (.iaload, 1), some (.goto 5, 3), none], [none, some (.iload 4, 2), none, some (.ireturn, 1), some (.iconst 0, 1), some (.istore 5, 2), none, some (.iconst 0, 1), some (.istore 6, 2), none, some (.iload 6, 2), none, some (.aload_n 0, 1), some (.getfield 718, 3), none, none], [some (.if_icmp .ge 60, 3), none, none, some (.aload_n 0, 1), some (.getfield 733, 3), none, none, some (.iload 6, 2), none, some (.baload, 1), some (.ifCond .eq 44, 3), none, none, some (.aload_n 0, 1), some (.getfield 736, 3), none], [none, some (.bipush 125, 2), none, some (.iload 6, 2), none, some (.imul, 1), some (.iload_n 3, 1), some (.iadd, 1), some (.baload, 1), some (.ifCond .eq 29, 3), none, none, some (.aload_n 0, 1), some (.getfield 720, 3), none, none], [some (.iload 6, 2), none, some (.iaload, 1), some (.aload_n 0, 1), some (.getfield 720, 3), none, none, some (.iload 4, 2), none, some (.iaload, 1), some (.if_icmp .eq 12, 3), none, none, some (.iload 5, 2), none, some (.iconst 1, 1)], [some (.iload 6, 2), none, some (.ishl, 1), some (.ior, 1), some (.istore 5, 2), none, some (.iinc 6 1, 3), none, none, some (.goto (-63), 3), none, none, some (.iload 5, 2), none, some (.ireturn, 1)]]
def s_cd236 : sCode := [[some (.aload_n 0, 1), some (.getfield 750, 3), none, none, some (.iload_n 1, 1), some (.iaload, 1), some (.iconst (-1), 1), some (.if_icmp .ne 8, 3), none, none, some (.bipush (-11), 2), none, some (.goto 20, 3), none, none, some (.aload_n 0, 1)], [some (.getfield 750, 3), none, none, some (.iload_n 1, 1), some (.iaload, 1), some (.bipush (-3), 2), none, some (.if_icmp .ne 7, 3), none, none, some (.iconst 0, 1), some (.goto 5, 3), none, none, some (.bipush (-12), 2), none], [some (.ireturn, 1)]]
def s_cd237 : sCode := [[some (.aload_n 0, 1), some (.getfield 752, 3), none, none, some (.bipush 60, 2), none, some (.iload_n 1, 1), some (.imul, 1), some (.iconst 2, 1), some (.iload_n 2, 1), some (.imul, 1), some (.iadd, 1), some (.laload, 1), some (.l2i, 1), some (.ireturn, 1)]]
def s_cd238 : sCode := [[some (.aload_n 0, 1), some (.getfield 752, 3), none, none, some (.bipush 60, 2), none, some (.iload_n 1, 1), some (.imul, 1), some (.iconst 2, 1), some (.iload_n 2, 1), some (.imul, 1), some (.iadd, 1), some (.iconst 1, 1), some (.iadd, 1), some (.laload, 1), some (.l2i, 1)], [some (.ireturn, 1)]]
def s_cd239 : sCode := [[some (.iconst 2, 1), some (.iload_n 2, 1), some (.imul, 1), some (.iconst 1, 1), some (.iadd, 1), some (.aload_n 0, 1), some (.getfield 751, 3), none, none, some (.iload_n 1, 1), some (.iaload, 1), some (.if_icmp .ge 44, 3), none, none, some (.aload_n 0, 1), some (.iload_n 1, 1)], [some (.iload_n 2, 1), some (.invokevirtual 1898, 3), none, none, some (.invokestatic 1809, 3), none, none, some (.ifCond .eq 32, 3), none, none, some (.aload_n 0, 1), some (.iload_n 1, 1), some (.iload_n 2, 1), some (.invokevirtual 1906, 3), none, none], [some (.iconst 0, 1), some (.iconst 2, 1), some (.invokestatic 1451, 3), none, none, some (.ifCond .ne 14, 3), none, none, some (.aload_n 0, 1), some (.iload_n 1, 1), some (.iload_n 2, 1), some (.invokevirtual 1906, 3), none, none, some (.bipush (-2), 2), none], [some (.if_icmp .ne 7, 3), none, none, some (.iconst 1, 1), some (.goto 4, 3), none, none, some (.iconst 0, 1), some (.ireturn, 1)]]
def s_cd240 : sCode := [[some (.iconst 0, 1), some (.istore_n 2, 1), some (.iconst 2, 1), some (.iload_n 2, 1), some (.imul, 1), some (.aload_n 0, 1), some (.getfield 751, 3), none, none, some (.iload_n 1, 1), some (.iaload, 1), some (.if_icmp .ge 46, 3), none, none, some (.aload_n 0, 1), some (.iload_n 1, 1)], [some (.iload_n 2, 1), some (.invokevirtual 1914, 3), none, none, some (.ifCond .eq 29, 3), none, none, some (.aload_n 0, 1), some (.aload_n 0, 1), some (.iload_n 1, 1), some (.iload_n 2, 1), some (.invokevirtual 1898, 3), none, none, some (.invokestatic 1793, 3), none], [none, some (.aload_n 0, 1), some (.getfield 722, 3), none, none, some (.invokevirtual 1866, 3), none, none, some (.aload_n 0, 1), some (.iload_n 1, 1), some (.iload_n 2, 1), some (.invokevirtual 1906, 3), none, none, some (.if_icmp .eq 5, 3), none], [none, some (.iload_n 2, 1), some (.ireturn, 1), some (.iinc 2 1, 3), none, none, some (.goto (-52), 3), none, none, some (.bipush (-2), 2), none, some (.ireturn, 1)]]
def s_cd241 : sCode := [[some (.iload_n 1, 1), some (.invokestatic 2249, 3), none, none, some (.ifCond .ne 5, 3), none, none, some (.iconst (-1), 1), some (.ireturn, 1), some (.aload_n 0, 1), some (.iload_n 1, 1), some (.invokevirtual 1889, 3), none, none, some (.ifCond .ge 9, 3), none], [none, some (.aload_n 0, 1), some (.iload_n 1, 1), some (.invokevirtual 1889, 3), none, none, some (.ireturn, 1), some (.aload_n 0, 1), some (.invokevirtual 1784, 3), none, none, some (.aload_n 0, 1), some (.iload_n 1, 1), some (.invokevirtual 1921, 3), none, none], [some (.ireturn, 1)]]
def s_cd242 : sCode := [[some (.aload_n 0, 1), some (.invokevirtual 1784, 3), none, none, some (.iconst 1, 1), some (.aload_n 0, 1), some (.getfield 718, 3), none, none, some (.ishl, 1), some (.iconst 1, 1), some (.isub, 1), some (.istore_n 1, 1), some (.iconst 0, 1), some (.istore_n 2, 1), some (.iload_n 2, 1)], [some (.bipush 125, 2), none, some (.if_icmp .ge 31, 3), none, none, some (.aload_n 0, 1), some (.iload_n 2, 1), some (.aload_n 0, 1), some (.getfield 722, 3), none, none, some (.invokevirtual 1858, 3), none, none, some (.istore_n 3, 1), some (.iload_n 3, 1)], [some (.ifCond .lt 11, 3), none, none, some (.iload_n 1, 1), some (.iconst 1, 1), some (.iload_n 3, 1), some (.ishl, 1), some (.iconst (-1), 1), some (.ixor, 1), some (.iand, 1), some (.istore_n 1, 1), some (.iinc 2 1, 3), none, none, some (.goto (-31), 3), none], [none, some (.iload_n 1, 1), some (.ireturn, 1)]]
def s_cd243 : sCode := [[some (.iload_n 1, 1), some (.ifCond .lt 67, 3), none, none, some (.aload_n 0, 1), some (.iload_n 1, 1), some (.bipush 10, 2), none, some (.idiv, 1), some (.invokevirtual 1609, 3), none, none, some (.ifCond .eq 56, 3), none, none, some (.aload_n 0, 1)], [some (.iload_n 1, 1), some (.bipush 10, 2), none, some (.irem, 1), some (.invokevirtual 1609, 3), none, none, some (.ifCond .eq 45, 3), none, none, some (.iload_n 1, 1), some (.bipush 10, 2), none, some (.idiv, 1), some (.iload_n 1, 1), some (.bipush 10, 2)], [none, some (.irem, 1), some (.if_icmp .eq 34, 3), none, none, some (.aload_n 0, 1), some (.iload_n 1, 1), some (.bipush 10, 2), none, some (.idiv, 1), some (.invokevirtual 1617, 3), none, none, some (.ifCond .eq 23, 3), none, none], [some (.aload_n 0, 1), some (.iload_n 1, 1), some (.bipush 10, 2), none, some (.irem, 1), some (.invokevirtual 1617, 3), none, none, some (.ifCond .eq 12, 3), none, none, some (.iload_n 2, 1), some (.iconst 0, 1), some (.iconst 1, 1), some (.invokestatic 1451, 3), none], [none, some (.ifCond .ne 5, 3), none, none, some (.iconst (-1), 1), some (.ireturn, 1), some (.aload_n 0, 1), some (.invokevirtual 1776, 3), none, none, some (.bipush (-2), 2), none, some (.istore_n 3, 1), some (.iconst 0, 1), some (.istore 4, 2), none], [some (.bipush 124, 2), none, some (.istore 5, 2), none, some (.iload 5, 2), none, some (.ifCond .lt 78, 3), none, none, some (.aload_n 0, 1), some (.getfield 720, 3), none, none, some (.iload_n 1, 1), some (.bipush 10, 2), none], [some (.idiv, 1), some (.iaload, 1), some (.aload_n 0, 1), some (.getfield 720, 3), none, none, some (.iload_n 1, 1), some (.bipush 10, 2), none, some (.irem, 1), some (.iaload, 1), some (.if_icmp .eq 51, 3), none, none, some (.aload_n 0, 1), some (.getfield 736, 3)], [none, none, some (.bipush 125, 2), none, some (.iload_n 1, 1), some (.bipush 10, 2), none, some (.idiv, 1), some (.imul, 1), some (.iload 5, 2), none, some (.iadd, 1), some (.baload, 1), some (.ifCond .eq 33, 3), none, none], [some (.aload_n 0, 1), some (.getfield 736, 3), none, none, some (.bipush 125, 2), none, some (.iload_n 1, 1), some (.bipush 10, 2), none, some (.irem, 1), some (.imul, 1), some (.iload 5, 2), none, some (.iadd, 1), some (.baload, 1), some (.ifCond .ne 6, 3)], [none, none, some (.goto 12, 3), none, none, some (.iload 5, 2), none, some (.invokestatic 1801, 3), none, none, some (.istore_n 3, 1), some (.iinc 4 1, 3), none, none, some (.iinc 5 (-1), 3), none], [none, some (.goto (-77), 3), none, none, some (.iload_n 2, 1), some (.ifCond .ne 7, 3), none, none, some (.iload_n 3, 1), some (.goto 5, 3), none, none, some (.iload 4, 2), none, some (.ireturn, 1)]]
def s_cd244 : sCode := [[some (.iload_n 1, 1), some (.ifCond .ge 5, 3), none, none, some (.iconst 1, 1), some (.ireturn, 1), some (.iload_n 2, 1), some (.aload_n 0, 1), some (.iload_n 1, 1), some (.bipush 15, 2), none, some (.idiv, 1), some (.invokevirtual 1721, 3), none, none, some (.invokestatic 1762, 3)], [none, none, some (.istore_n 3, 1), some (.iload_n 1, 1), some (.iconst 5, 1), some (.irem, 1), some (.istore 4, 2), none, some (.iload_n 1, 1), some (.iconst 5, 1), some (.idiv, 1), some (.iconst 3, 1), some (.irem, 1), some (.istore 5, 2), none, some (.iload 5, 2)], [none, some (.ifCond .ne 17, 3), none, none, some (.iload_n 3, 1), some (.iload 4, 2), none, some (.if_icmp .ge 7, 3), none, none, some (.iconst 1, 1), some (.goto 38, 3), none, none, some (.iconst 0, 1), some (.goto 34, 3)], [none, none, some (.iload 5, 2), none, some (.iconst 1, 1), some (.if_icmp .ne 17, 3), none, none, some (.iload_n 3, 1), some (.iload 4, 2), none, some (.if_icmp .ne 7, 3), none, none, some (.iconst 1, 1), some (.goto 18, 3)], [none, none, some (.iconst 0, 1), some (.goto 14, 3), none, none, some (.iload_n 3, 1), some (.iload 4, 2), none, some (.if_icmp .le 7, 3), none, none, some (.iconst 1, 1), some (.goto 4, 3), none, none], [some (.iconst 0, 1), some (.ireturn, 1)]]
def s_cd245 : sCode := [[some (.aload_n 0, 1), some (.getfield 737, 3), none, none, some (.bipush 10, 2), none, some (.iconst 0, 1), some (.iastore, 1), some (.iconst 0, 1), some (.istore_n 3, 1), some (.iload_n 3, 1), some (.bipush 125, 2), none, some (.if_icmp .ge 62, 3), none, none], [some (.aload_n 0, 1), some (.iload_n 1, 1), some (.iload_n 3, 1), some (.invokevirtual 1954, 3), none, none, some (.ifCond .eq 16, 3), none, none, some (.aload_n 0, 1), some (.iload_n 2, 1), some (.iload_n 3, 1), some (.invokevirtual 1954, 3), none, none, some (.ifCond .eq 7, 3)], [none, none, some (.iconst 1, 1), some (.goto 4, 3), none, none, some (.iconst 0, 1), some (.istore 4, 2), none, some (.aload_n 0, 1), some (.getfield 736, 3), none, none, some (.sipush 1250, 3), none, none], [some (.iload_n 3, 1), some (.iadd, 1), some (.iload 4, 2), none, some (.bastore, 1), some (.iload 4, 2), none, some (.ifCond .eq 14, 3), none, none, some (.aload_n 0, 1), some (.getfield 737, 3), none, none, some (.bipush 10, 2), none], [some (.dup2, 1), some (.iaload, 1), some (.iconst 1, 1), some (.iadd, 1), some (.iastore, 1), some (.iinc 3 1, 3), none, none, some (.goto (-62), 3), none, none, some (.return_, 1)]]
def s_cd246 : sCode := [[some (.aload_n 0, 1), some (.iload_n 1, 1), some (.aload_n 0, 1), some (.getfield 722, 3), none, none, some (.invokevirtual 1858, 3), none, none, some (.istore_n 2, 1), some (.aload_n 0, 1), some (.getfield 736, 3), none, none, some (.sipush 1250, 3), none], [none, some (.iload_n 1, 1), some (.iadd, 1), some (.baload, 1), some (.ifCond .eq 24, 3), none, none, some (.iload_n 2, 1), some (.ifCond .lt 17, 3), none, none, some (.aload_n 0, 1), some (.bipush 10, 2), none, some (.iload_n 2, 1), some (.aload_n 0, 1)], [some (.getfield 722, 3), none, none, some (.invokevirtual 1851, 3), none, none, some (.ifCond .eq 6, 3), none, none, some (.bipush 10, 2), none, some (.istore_n 2, 1), some (.iload_n 2, 1), some (.ifCond .ge 8, 3), none, none], [some (.bipush (-2), 2), none, some (.goto 9, 3), none, none, some (.aload_n 0, 1), some (.getfield 720, 3), none, none, some (.iload_n 2, 1), some (.iaload, 1), some (.ireturn, 1)]]
def s_cd247 : sCode := [[some (.iconst 0, 1), some (.istore_n 2, 1), some (.iconst 2, 1), some (.iload_n 2, 1), some (.imul, 1), some (.aload_n 0, 1), some (.getfield 751, 3), none, none, some (.iload_n 1, 1), some (.iaload, 1), some (.if_icmp .ge 42, 3), none, none, some (.aload_n 0, 1), some (.iload_n 1, 1)], [some (.iload_n 2, 1), some (.invokevirtual 1914, 3), none, none, some (.ifCond .eq 25, 3), none, none, some (.aload_n 0, 1), some (.aload_n 0, 1), some (.iload_n 1, 1), some (.iload_n 2, 1), some (.invokevirtual 1898, 3), none, none, some (.invokestatic 1793, 3), none], [none, some (.invokevirtual 1969, 3), none, none, some (.aload_n 0, 1), some (.iload_n 1, 1), some (.iload_n 2, 1), some (.invokevirtual 1906, 3), none, none, some (.if_icmp .eq 5, 3), none, none, some (.iconst 0, 1), some (.ireturn, 1), some (.iinc 2 1, 3)], [none, none, some (.goto (-48), 3), none, none, some (.iconst 1, 1), some (.ireturn, 1)]]
def s_cd248 : sCode := [[some (.aload_n 0, 1), some (.getfield 719, 3), none, none, some (.bipush 10, 2), none, some (.iload_n 1, 1), some (.iastore, 1), some (.aload_n 0, 1), some (.getfield 720, 3), none, none, some (.bipush 10, 2), none, some (.iload_n 2, 1), some (.iastore, 1)], [some (.aload_n 0, 1), some (.invokevirtual 1784, 3), none, none, some (.return_, 1)]]
def s_cd249 : sCode := [[some (.iload_n 1, 1), some (.invokestatic 2249, 3), none, none, some (.ifCond .eq 22, 3), none, none, some (.iload_n 2, 1), some (.iconst 0, 1), some (.bipush 99, 2), none, some (.invokestatic 1451, 3), none, none, some (.ifCond .eq 12, 3), none], [none, some (.iload_n 3, 1), some (.iconst 0, 1), some (.iconst 2, 1), some (.invokestatic 1451, 3), none, none, some (.ifCond .ne 5, 3), none, none, some (.iconst (-1), 1), some (.ireturn, 1), some (.aload_n 0, 1), some (.iload_n 1, 1), some (.invokevirtual 1889, 3), none], [none, some (.ifCond .ge 9, 3), none, none, some (.aload_n 0, 1), some (.iload_n 1, 1), some (.invokevirtual 1889, 3), none, none, some (.ireturn, 1), some (.aload_n 0, 1), some (.iload_n 2, 1), some (.iload_n 3, 1), some (.invokevirtual 1986, 3), none, none], [some (.aload_n 0, 1), some (.iconst (-1), 1), some (.iconst (-1), 1), some (.invokevirtual 1962, 3), none, none, some (.aload_n 0, 1), some (.iload_n 1, 1), some (.invokevirtual 1977, 3), none, none, some (.ifCond .eq 5, 3), none, none, some (.iconst 0, 1), some (.ireturn, 1)], [some (.iconst 0, 1), some (.istore 4, 2), none, some (.iload 4, 2), none, some (.bipush 45, 2), none, some (.if_icmp .ge 32, 3), none, none, some (.aload_n 0, 1), some (.iload 4, 2), none, some (.iconst (-1), 1), some (.invokevirtual 1962, 3), none], [none, some (.aload_n 0, 1), some (.iload_n 1, 1), some (.invokevirtual 1977, 3), none, none, some (.ifCond .eq 11, 3), none, none, some (.bipush 100, 2), none, some (.iload 4, 2), none, some (.iconst 1, 1), some (.iadd, 1), some (.imul, 1)], [some (.ireturn, 1), some (.iinc 4 1, 3), none, none, some (.goto (-33), 3), none, none, some (.iconst 0, 1), some (.istore 4, 2), none, some (.iload 4, 2), none, some (.bipush 45, 2), none, some (.if_icmp .ge 57, 3), none], [none, some (.iload 4, 2), none, some (.iconst 1, 1), some (.iadd, 1), some (.istore 5, 2), none, some (.iload 5, 2), none, some (.bipush 45, 2), none, some (.if_icmp .ge 38, 3), none, none, some (.aload_n 0, 1), some (.iload 4, 2)], [none, some (.iload 5, 2), none, some (.invokevirtual 1962, 3), none, none, some (.aload_n 0, 1), some (.iload_n 1, 1), some (.invokevirtual 1977, 3), none, none, some (.ifCond .eq 16, 3), none, none, some (.bipush 100, 2), none], [some (.iload 4, 2), none, some (.iconst 1, 1), some (.iadd, 1), some (.imul, 1), some (.iload 5, 2), none, some (.iadd, 1), some (.iconst 1, 1), some (.iadd, 1), some (.ireturn, 1), some (.iinc 5 1, 3), none, none, some (.goto (-39), 3), none], [none, some (.iinc 4 1, 3), none, none, some (.goto (-58), 3), none, none, some (.bipush (-2), 2), none, some (.ireturn, 1)]]
def s_cd250 : sCode := [[some (.iconst (-1), 1), some (.istore_n 3, 1), some (.iload_n 3, 1), some (.bipush 45, 2), none, some (.if_icmp .ge 66, 3), none, none, some (.iconst (-1), 1), some (.istore 4, 2), none, some (.iload 4, 2), none, some (.bipush 45, 2), none, some (.if_icmp .ge 50, 3)], [none, none, some (.iload 4, 2), none, some (.ifCond .lt 9, 3), none, none, some (.iload 4, 2), none, some (.iload_n 3, 1), some (.if_icmp .le 33, 3), none, none, some (.iload_n 3, 1), some (.ifCond .ge 11, 3), none], [none, some (.iload 4, 2), none, some (.ifCond .lt 6, 3), none, none, some (.goto 21, 3), none, none, some (.aload_n 0, 1), some (.iload_n 3, 1), some (.iload 4, 2), none, some (.invokevirtual 1962, 3), none, none], [some (.aload_n 0, 1), some (.iload_n 1, 1), some (.invokevirtual 1969, 3), none, none, some (.iload_n 2, 1), some (.if_icmp .ne 5, 3), none, none, some (.iconst 1, 1), some (.ireturn, 1), some (.iinc 4 1, 3), none, none, some (.goto (-51), 3), none], [none, some (.iinc 3 1, 3), none, none, some (.goto (-66), 3), none, none, some (.iconst 0, 1), some (.ireturn, 1)]]
def s_cd251 : sCode := [[some (.iload_n 1, 1), some (.invokestatic 2249, 3), none, none, some (.ifCond .eq 22, 3), none, none, some (.iload_n 2, 1), some (.iconst 0, 1), some (.bipush 99, 2), none, some (.invokestatic 1451, 3), none, none, some (.ifCond .eq 12, 3), none], [none, some (.iload_n 3, 1), some (.iconst 0, 1), some (.iconst 2, 1), some (.invokestatic 1451, 3), none, none, some (.ifCond .ne 5, 3), none, none, some (.iconst (-1), 1), some (.ireturn, 1), some (.aload_n 0, 1), some (.iload_n 1, 1), some (.invokevirtual 1889, 3), none], [none, some (.ifCond .ge 9, 3), none, none, some (.aload_n 0, 1), some (.iload_n 1, 1), some (.invokevirtual 1889, 3), none, none, some (.ireturn, 1), some (.aload_n 0, 1), some (.iload_n 2, 1), some (.iload_n 3, 1), some (.invokevirtual 1986, 3), none, none], [some (.iconst 0, 1), some (.istore 4, 2), none, some (.iconst 2, 1), some (.iload 4, 2), none, some (.imul, 1), some (.aload_n 0, 1), some (.getfield 751, 3), none, none, some (.iload_n 1, 1), some (.iaload, 1), some (.if_icmp .ge 78, 3), none, none], [some (.aload_n 0, 1), some (.iload_n 1, 1), some (.iload 4, 2), none, some (.invokevirtual 1914, 3), none, none, some (.ifCond .ne 6, 3), none, none, some (.bipush (-2), 2), none, some (.ireturn, 1), some (.aload_n 0, 1), some (.iload_n 1, 1), some (.iload 4, 2)], [none, some (.invokevirtual 1898, 3), none, none, some (.invokestatic 1793, 3), none, none, some (.istore 5, 2), none, some (.aload_n 0, 1), some (.iload 5, 2), none, some (.aload_n 0, 1), some (.iload_n 1, 1), some (.iload 4, 2), none], [some (.invokevirtual 1906, 3), none, none, some (.invokevirtual 2002, 3), none, none, some (.ifCond .eq 6, 3), none, none, some (.goto 28, 3), none, none, some (.aload_n 0, 1), some (.iload 5, 2), none, some (.aload_n 0, 1)], [some (.getfield 722, 3), none, none, some (.invokevirtual 1858, 3), none, none, some (.istore 6, 2), none, some (.iload 6, 2), none, some (.ifCond .ge 8, 3), none, none, some (.bipush (-2), 2), none, some (.goto 5, 3)], [none, none, some (.iload 6, 2), none, some (.ireturn, 1), some (.iinc 4 1, 3), none, none, some (.goto (-85), 3), none, none, some (.bipush (-2), 2), none, some (.ireturn, 1)]]
def s_cd252 : sCode := [[some (.iconst 0, 1), some (.istore_n 2, 1), some (.iload_n 2, 1), some (.bipush 125, 2), none, some (.if_icmp .ge 21, 3), none, none, some (.aload_n 0, 1), some (.getfield 738, 3), none, none, some (.iload_n 2, 1), some (.aload_n 0, 1), some (.iload_n 2, 1), some (.iload_n 1, 1)], [some (.invokevirtual 1866, 3), none, none, some (.iastore, 1), some (.iinc 2 1, 3), none, none, some (.goto (-21), 3), none, none, some (.return_, 1)]]
def s_cd253 : sCode := [[some (.iconst 0, 1), some (.istore_n 3, 1), some (.bipush (-2), 2), none, some (.istore 4, 2), none, some (.bipush 124, 2), none, some (.istore 5, 2), none, some (.iload 5, 2), none, some (.ifCond .lt 39, 3), none, none, some (.aload_n 0, 1)], [some (.iload 5, 2), none, some (.iload_n 1, 1), some (.invokevirtual 1866, 3), none, none, some (.aload_n 0, 1), some (.getfield 738, 3), none, none, some (.iload 5, 2), none, some (.iaload, 1), some (.if_icmp .ne 6, 3), none, none], [some (.goto 13, 3), none, none, some (.iinc 3 1, 3), none, none, some (.iload 5, 2), none, some (.invokestatic 1801, 3), none, none, some (.istore 4, 2), none, some (.iinc 5 (-1), 3), none, none], [some (.goto (-38), 3), none, none, some (.iload_n 2, 1), some (.ifCond .ne 7, 3), none, none, some (.iload_n 3, 1), some (.goto 5, 3), none, none, some (.iload 4, 2), none, some (.ireturn, 1)]]
def s_cd254 : sCode := [[some (.iload_n 1, 1), some (.iconst 0, 1), some (.iconst 2, 1), some (.invokestatic 1451, 3), none, none, some (.ifCond .eq 12, 3), none, none, some (.iload_n 2, 1), some (.iconst 0, 1), some (.iconst 1, 1), some (.invokestatic 1451, 3), none, none, some (.ifCond .ne 5, 3)], [none, none, some (.iconst (-1), 1), some (.ireturn, 1), some (.aload_n 0, 1), some (.invokevirtual 1784, 3), none, none, some (.aload_n 0, 1), some (.aload_n 0, 1), some (.getfield 722, 3), none, none, some (.invokevirtual 2017, 3), none, none], [some (.aload_n 0, 1), some (.getfield 724, 3), none, none, some (.iload_n 1, 1), some (.iaload, 1), some (.istore_n 3, 1), some (.aload_n 0, 1), some (.getfield 724, 3), none, none, some (.iload_n 1, 1), some (.iconst (-1), 1), some (.iastore, 1), some (.aload_n 0, 1), some (.invokevirtual 1784, 3)], [none, none, some (.aload_n 0, 1), some (.aload_n 0, 1), some (.getfield 722, 3), none, none, some (.iload_n 2, 1), some (.invokevirtual 2026, 3), none, none, some (.istore 4, 2), none, some (.aload_n 0, 1), some (.getfield 724, 3), none], [none, some (.iload_n 1, 1), some (.iload_n 3, 1), some (.iastore, 1), some (.iload 4, 2), none, some (.ireturn, 1)]]
def s_cd255 : sCode := [[some (.iload_n 1, 1), some (.invokestatic 2249, 3), none, none, some (.ifCond .ne 5, 3), none, none, some (.iconst (-1), 1), some (.ireturn, 1), some (.aload_n 0, 1), some (.iload_n 1, 1), some (.invokevirtual 1889, 3), none, none, some (.ifCond .ge 9, 3), none], [none, some (.aload_n 0, 1), some (.iload_n 1, 1), some (.invokevirtual 1889, 3), none, none, some (.ireturn, 1), some (.aload_n 0, 1), some (.invokevirtual 1776, 3), none, none, some (.iconst 0, 1), some (.istore_n 2, 1), some (.iload_n 2, 1), some (.aload_n 0, 1), some (.getfield 718, 3)], [none, none, some (.if_icmp .gt 56, 3), none, none, some (.iconst 0, 1), some (.istore_n 3, 1), some (.iload_n 3, 1), some (.iconst 1, 1), some (.aload_n 0, 1), some (.getfield 718, 3), none, none, some (.ishl, 1), some (.if_icmp .ge 38, 3), none], [none, some (.iload_n 3, 1), some (.invokestatic 1457, 3), none, none, some (.iload_n 2, 1), some (.if_icmp .eq 6, 3), none, none, some (.goto 21, 3), none, none, some (.aload_n 0, 1), some (.iload_n 3, 1), some (.iconst (-1), 1), some (.invokevirtual 1754, 3)], [none, none, some (.aload_n 0, 1), some (.iload_n 1, 1), some (.invokevirtual 1921, 3), none, none, some (.bipush (-2), 2), none, some (.if_icmp .ne 5, 3), none, none, some (.iload_n 3, 1), some (.ireturn, 1), some (.iinc 3 1, 3), none], [none, some (.goto (-42), 3), none, none, some (.iinc 2 1, 3), none, none, some (.goto (-58), 3), none, none, some (.bipush (-2), 2), none, some (.ireturn, 1)]]
def s_cd256 : sCode := [[some (.aload_n 0, 1), some (.iload_n 1, 1), some (.invokevirtual 1609, 3), none, none, some (.ifCond .eq 12, 3), none, none, some (.iload_n 2, 1), some (.iconst 0, 1), some (.iconst 1, 1), some (.invokestatic 1451, 3), none, none, some (.ifCond .ne 5, 3), none], [none, some (.iconst (-1), 1), some (.ireturn, 1), some (.aload_n 0, 1), some (.iload_n 1, 1), some (.invokevirtual 1617, 3), none, none, some (.ifCond .ne 6, 3), none, none, some (.bipush (-5), 2), none, some (.ireturn, 1), some (.aload_n 0, 1), some (.invokevirtual 1784, 3)], [none, none, some (.aload_n 0, 1), some (.aload_n 0, 1), some (.getfield 722, 3), none, none, some (.invokevirtual 2017, 3), none, none, some (.iconst 0, 1), some (.istore_n 3, 1), some (.iconst 0, 1), some (.istore 4, 2), none, some (.iload 4, 2)], [none, some (.aload_n 0, 1), some (.getfield 718, 3), none, none, some (.if_icmp .ge 26, 3), none, none, some (.aload_n 0, 1), some (.getfield 733, 3), none, none, some (.iload 4, 2), none, some (.baload, 1), some (.ifCond .eq 10, 3)], [none, none, some (.iload_n 3, 1), some (.iconst 1, 1), some (.iload 4, 2), none, some (.ishl, 1), some (.ior, 1), some (.istore_n 3, 1), some (.iinc 4 1, 3), none, none, some (.goto (-29), 3), none, none, some (.aload_n 0, 1)], [some (.iconst 0, 1), some (.iload_n 1, 1), some (.invokevirtual 1754, 3), none, none, some (.aload_n 0, 1), some (.aload_n 0, 1), some (.getfield 722, 3), none, none, some (.iconst 0, 1), some (.invokevirtual 2026, 3), none, none, some (.istore 4, 2), none], [some (.iconst 0, 1), some (.istore 5, 2), none, some (.iconst 0, 1), some (.istore 6, 2), none, some (.iload 6, 2), none, some (.aload_n 0, 1), some (.getfield 718, 3), none, none, some (.if_icmp .ge 38, 3), none, none, some (.iload_n 3, 1)], [some (.iload 6, 2), none, some (.ishr, 1), some (.iconst 1, 1), some (.iand, 1), some (.iconst 1, 1), some (.if_icmp .ne 22, 3), none, none, some (.aload_n 0, 1), some (.getfield 733, 3), none, none, some (.iload 6, 2), none, some (.baload, 1)], [some (.ifCond .ne 12, 3), none, none, some (.iload 5, 2), none, some (.iconst 1, 1), some (.iload 6, 2), none, some (.ishl, 1), some (.ior, 1), some (.istore 5, 2), none, some (.iinc 6 1, 3), none, none, some (.goto (-41), 3)], [none, none, some (.iload_n 2, 1), some (.ifCond .ne 8, 3), none, none, some (.iload 4, 2), none, some (.goto 5, 3), none, none, some (.iload 5, 2), none, some (.ireturn, 1)]]
def s_cd257 : sCode := [[some (.iload_n 1, 1), some (.ifCond .lt 28, 3), none, none, some (.iload_n 1, 1), some (.bipush 10, 2), none, some (.idiv, 1), some (.iconst 3, 1), some (.if_icmp .gt 20, 3), none, none, some (.iload_n 1, 1), some (.bipush 10, 2), none, some (.irem, 1)], [some (.iconst 3, 1), some (.if_icmp .gt 12, 3), none, none, some (.iload_n 2, 1), some (.iconst 0, 1), some (.iconst 1, 1), some (.invokestatic 1451, 3), none, none, some (.ifCond .ne 5, 3), none, none, some (.iconst (-1), 1), some (.ireturn, 1), some (.aload_n 0, 1)], [some (.invokevirtual 1784, 3), none, none, some (.aload_n 0, 1), some (.iload_n 1, 1), some (.bipush 10, 2), none, some (.idiv, 1), some (.invokevirtual 2017, 3), none, none, some (.aload_n 0, 1), some (.iload_n 1, 1), some (.bipush 10, 2), none, some (.irem, 1)], [some (.iload_n 2, 1), some (.invokevirtual 2026, 3), none, none, some (.ireturn, 1)]]
def s_cd258 : sCode := [[some (.aload_n 0, 1), some (.aload_n 0, 1), some (.getfield 721, 3), none, none, some (.iload_n 1, 1), some (.iaload, 1), some (.invokevirtual 1609, 3), none, none, some (.ifCond .eq 25, 3), none, none, some (.aload_n 0, 1), some (.aload_n 0, 1), some (.getfield 721, 3)], [none, none, some (.iload_n 1, 1), some (.iaload, 1), some (.invokevirtual 1617, 3), none, none, some (.ifCond .eq 12, 3), none, none, some (.aload_n 0, 1), some (.getfield 721, 3), none, none, some (.iload_n 1, 1), some (.iaload, 1)], [some (.goto 4, 3), none, none, some (.iconst (-1), 1), some (.ireturn, 1)]]
def s_cd259 : sCode := [[some (.iconst 0, 1), some (.istore_n 1, 1), some (.iconst 0, 1), some (.istore_n 2, 1), some (.iload_n 2, 1), some (.aload_n 0, 1), some (.getfield 718, 3), none, none, some (.if_icmp .ge 68, 3), none, none, some (.aload_n 0, 1), some (.iload_n 2, 1), some (.invokevirtual 1617, 3), none], [none, some (.ifCond .ne 6, 3), none, none, some (.goto 51, 3), none, none, some (.aload_n 0, 1), some (.iload_n 2, 1), some (.invokevirtual 2065, 3), none, none, some (.istore_n 3, 1), some (.iconst 0, 1), some (.istore 4, 2), none], [some (.iload 4, 2), none, some (.bipush 10, 2), none, some (.if_icmp .ge 24, 3), none, none, some (.iload_n 3, 1), some (.ifCond .lt 20, 3), none, none, some (.iload_n 3, 1), some (.iload_n 2, 1), some (.if_icmp .eq 15, 3), none, none], [some (.aload_n 0, 1), some (.iload_n 3, 1), some (.invokevirtual 2065, 3), none, none, some (.istore_n 3, 1), some (.iinc 4 1, 3), none, none, some (.goto (-25), 3), none, none, some (.iload_n 3, 1), some (.iload_n 2, 1), some (.if_icmp .ne 9, 3), none], [none, some (.iload_n 1, 1), some (.iconst 1, 1), some (.iload_n 2, 1), some (.ishl, 1), some (.ior, 1), some (.istore_n 1, 1), some (.iinc 2 1, 3), none, none, some (.goto (-70), 3), none, none, some (.iload_n 1, 1), some (.ireturn, 1)]]
def s_cd260 : sCode := [[some (.aload_n 0, 1), some (.iconst 1, 1), some (.putfield 739, 3), none, none, some (.aload_n 0, 1), some (.aload_n 0, 1), some (.getfield 718, 3), none, none, some (.putfield 740, 3), none, none, some (.iconst 0, 1), some (.istore_n 1, 1), some (.iload_n 1, 1)], [some (.aload_n 0, 1), some (.getfield 718, 3), none, none, some (.if_icmp .ge 45, 3), none, none, some (.aload_n 0, 1), some (.getfield 741, 3), none, none, some (.iload_n 1, 1), some (.aload_n 0, 1), some (.getfield 719, 3), none, none], [some (.iload_n 1, 1), some (.iaload, 1), some (.iastore, 1), some (.aload_n 0, 1), some (.getfield 742, 3), none, none, some (.iload_n 1, 1), some (.aload_n 0, 1), some (.getfield 720, 3), none, none, some (.iload_n 1, 1), some (.iaload, 1), some (.iastore, 1), some (.aload_n 0, 1)], [some (.getfield 743, 3), none, none, some (.iload_n 1, 1), some (.aload_n 0, 1), some (.getfield 721, 3), none, none, some (.iload_n 1, 1), some (.iaload, 1), some (.iastore, 1), some (.iinc 1 1, 3), none, none, some (.goto (-47), 3), none], [none, some (.iconst 0, 1), some (.istore_n 1, 1), some (.iload_n 1, 1), some (.iconst 3, 1), some (.if_icmp .ge 33, 3), none, none, some (.aload_n 0, 1), some (.getfield 744, 3), none, none, some (.iload_n 1, 1), some (.aload_n 0, 1), some (.getfield 724, 3), none], [none, some (.iload_n 1, 1), some (.iaload, 1), some (.iastore, 1), some (.aload_n 0, 1), some (.getfield 745, 3), none, none, some (.iload_n 1, 1), some (.aload_n 0, 1), some (.getfield 725, 3), none, none, some (.iload_n 1, 1), some (.iaload, 1), some (.iastore, 1)], [some (.iinc 1 1, 3), none, none, some (.goto (-32), 3), none, none, some (.aload_n 0, 1), some (.getfield 718, 3), none, none, some (.ireturn, 1)]]
def s_cd261 : sCode := [[some (.aload_n 0, 1), some (.getfield 739, 3), none, none, some (.ifCond .ne 6, 3), none, none, some (.bipush (-5), 2), none, some (.ireturn, 1), some (.iconst 0, 1), some (.istore_n 1, 1), some (.iload_n 1, 1), some (.aload_n 0, 1), some (.getfield 740, 3), none], [none, some (.if_icmp .ge 45, 3), none, none, some (.aload_n 0, 1), some (.getfield 719, 3), none, none, some (.iload_n 1, 1), some (.aload_n 0, 1), some (.getfield 741, 3), none, none, some (.iload_n 1, 1), some (.iaload, 1), some (.iastore, 1)], [some (.aload_n 0, 1), some (.getfield 720, 3), none, none, some (.iload_n 1, 1), some (.aload_n 0, 1), some (.getfield 742, 3), none, none, some (.iload_n 1, 1), some (.iaload, 1), some (.iastore, 1), some (.aload_n 0, 1), some (.getfield 721, 3), none, none], [some (.iload_n 1, 1), some (.aload_n 0, 1), some (.getfield 743, 3), none, none, some (.iload_n 1, 1), some (.iaload, 1), some (.iastore, 1), some (.iinc 1 1, 3), none, none, some (.goto (-47), 3), none, none, some (.iconst 0, 1), some (.istore_n 1, 1)], [some (.iload_n 1, 1), some (.iconst 3, 1), some (.if_icmp .ge 33, 3), none, none, some (.aload_n 0, 1), some (.getfield 724, 3), none, none, some (.iload_n 1, 1), some (.aload_n 0, 1), some (.getfield 744, 3), none, none, some (.iload_n 1, 1), some (.iaload, 1)], [some (.iastore, 1), some (.aload_n 0, 1), some (.getfield 725, 3), none, none, some (.iload_n 1, 1), some (.aload_n 0, 1), some (.getfield 745, 3), none, none, some (.iload_n 1, 1), some (.iaload, 1), some (.iastore, 1), some (.iinc 1 1, 3), none, none], [some (.goto (-32), 3), none, none, some (.aload_n 0, 1), some (.iconst 0, 1), some (.putfield 727, 3), none, none, some (.aload_n 0, 1), some (.iconst 0, 1), some (.putfield 728, 3), none, none, some (.aload_n 0, 1), some (.getfield 740, 3), none], [none, some (.ireturn, 1)]]
def s_cd262 : sCode := [[some (.iload_n 1, 1), some (.iconst 0, 1), some (.aload_n 0, 1), some (.getfield 746, 3), none, none, some (.iconst 1, 1), some (.isub, 1), some (.invokestatic 1451, 3), none, none, some (.ireturn, 1)]]
def s_cd263 : sCode := [[some (.aload_n 0, 1), some (.getfield 748, 3), none, none, some (.bipush 24, 2), none, some (.if_icmp .ge 13, 3), none, none, some (.aload_n 0, 1), some (.getfield 749, 3), none, none, some (.aload_n 0, 1), some (.getfield 748, 3), none], [none, some (.iload_n 1, 1), some (.iastore, 1), some (.aload_n 0, 1), some (.dup, 1), some (.getfield 748, 3), none, none, some (.iconst 1, 1), some (.iadd, 1), some (.putfield 748, 3), none, none, some (.return_, 1)]]
def s_cd264 : sCode := [[some (.iload_n 1, 1), some (.ifCond .lt 26, 3), none, none, some (.iload_n 1, 1), some (.aload_n 0, 1), some (.getfield 748, 3), none, none, some (.if_icmp .ge 18, 3), none, none, some (.iload_n 1, 1), some (.bipush 24, 2), none, some (.if_icmp .ge 12, 3)], [none, none, some (.aload_n 0, 1), some (.getfield 749, 3), none, none, some (.iload_n 1, 1), some (.iaload, 1), some (.goto 4, 3), none, none, some (.iconst (-1), 1), some (.ireturn, 1)]]
def s_cd265 : sCode := [[some (.iload_n 1, 1), some (.iconst 0, 1), some (.bipush 7, 2), none, some (.invokestatic 1451, 3), none, none, some (.ifCond .ne 5, 3), none, none, some (.iconst (-1), 1), some (.ireturn, 1), some (.aload_n 0, 1), some (.getfield 746, 3), none, none], [some (.bipush 50, 2), none, some (.if_icmp .ne 6, 3), none, none, some (.bipush (-3), 2), none, some (.ireturn, 1), some (.aload_n 0, 1), some (.getfield 747, 3), none, none, some (.aload_n 0, 1), some (.getfield 746, 3), none, none], [some (.iload_n 1, 1), some (.iastore, 1), some (.aload_n 0, 1), some (.dup, 1), some (.getfield 746, 3), none, none, some (.iconst 1, 1), some (.iadd, 1), some (.putfield 746, 3), none, none, some (.aload_n 0, 1), some (.getfield 746, 3), none, none], [some (.iconst 1, 1), some (.isub, 1), some (.ireturn, 1)]]
def s_cd266 : sCode := [[some (.iload_n 1, 1), some (.ifCond .eq 55, 3), none, none, some (.iload_n 0, 1), some (.iload_n 1, 1), some (.if_icmp .eq 50, 3), none, none, some (.iload_n 1, 1), some (.iconst 1, 1), some (.if_icmp .ne 8, 3), none, none, some (.iload_n 0, 1), some (.iconst 4, 1)], [some (.if_icmp .eq 40, 3), none, none, some (.iload_n 1, 1), some (.iconst 2, 1), some (.if_icmp .ne 13, 3), none, none, some (.iload_n 0, 1), some (.iconst 3, 1), some (.if_icmp .eq 30, 3), none, none, some (.iload_n 0, 1), some (.iconst 5, 1), some (.if_icmp .eq 25, 3)], [none, none, some (.iload_n 1, 1), some (.iconst 3, 1), some (.if_icmp .ne 8, 3), none, none, some (.iload_n 0, 1), some (.iconst 5, 1), some (.if_icmp .eq 15, 3), none, none, some (.iload_n 1, 1), some (.bipush 6, 2), none, some (.if_icmp .ne 13, 3)], [none, none, some (.iload_n 0, 1), some (.bipush 7, 2), none, some (.if_icmp .ne 7, 3), none, none, some (.iconst 1, 1), some (.goto 4, 3), none, none, some (.iconst 0, 1), some (.ireturn, 1)]]
def s_cd267 : sCode := [[some (.aload_n 0, 1), some (.iconst 1, 1), some (.invokevirtual 2105, 3), none, none, some (.iload_n 2, 1), some (.iload_n 1, 1), some (.iadd, 1), some (.ireturn, 1)]]
def s_cd268 : sCode := [[some (.aload_n 0, 1), some (.bipush 70, 2), none, some (.invokevirtual 2105, 3), none, none, some (.aload_n 0, 1), some (.iload_n 1, 1), some (.iload_n 2, 1), some (.invokevirtual 2138, 3), none, none, some (.iconst 2, 1), some (.imul, 1), some (.ireturn, 1)]]
def s_cd269 : sCode := [[some (.aload_n 0, 1), some (.getfield 747, 3), none, none, some (.iload_n 1, 1), some (.iaload, 1), some (.iconst 1, 1), some (.invokestatic 2130, 3), none, none, some (.ifCond .eq 18, 3), none, none, some (.aload_n 0, 1), some (.bipush 20, 2), none], [some (.invokevirtual 2105, 3), none, none, some (.aload_n 0, 1), some (.iload_n 1, 1), some (.iload_n 2, 1), some (.invokevirtual 2138, 3), none, none, some (.iconst 3, 1), some (.iadd, 1), some (.ireturn, 1), some (.aload_n 0, 1), some (.getfield 747, 3), none, none], [some (.iload_n 1, 1), some (.iaload, 1), some (.bipush 7, 2), none, some (.if_icmp .ne 18, 3), none, none, some (.aload_n 0, 1), some (.bipush 81, 2), none, some (.invokevirtual 2105, 3), none, none, some (.aload_n 0, 1), some (.iload_n 1, 1), some (.iload_n 2, 1)], [some (.invokevirtual 2146, 3), none, none, some (.iconst 1, 1), some (.isub, 1), some (.ireturn, 1), some (.aload_n 0, 1), some (.getfield 747, 3), none, none, some (.iload_n 1, 1), some (.iaload, 1), some (.bipush 6, 2), none, some (.if_icmp .ne 12, 3), none], [none, some (.aload_n 0, 1), some (.iload_n 1, 1), some (.iload_n 2, 1), some (.invokevirtual 2146, 3), none, none, some (.goto 9, 3), none, none, some (.aload_n 0, 1), some (.iload_n 1, 1), some (.iload_n 2, 1), some (.invokevirtual 2138, 3), none, none], [some (.ireturn, 1)]]
def s_cd270 : sCode := [[some (.aload_n 0, 1), some (.bipush 10, 2), none, some (.invokevirtual 2105, 3), none, none, some (.aload_n 0, 1), some (.iload_n 1, 1), some (.iload_n 2, 1), some (.invokevirtual 2154, 3), none, none, some (.iconst 2, 1), some (.imul, 1), some (.ireturn, 1)]]
def s_cd271 : sCode := [[some (.aload_n 0, 1), some (.bipush 30, 2), none, some (.invokevirtual 2105, 3), none, none, some (.aload_n 0, 1), some (.iload_n 1, 1), some (.iload_n 2, 1), some (.invokevirtual 2162, 3), none, none, some (.ineg, 1), some (.ireturn, 1)]]
def s_cd272 : sCode := [[some (.aload_n 0, 1), some (.getfield 747, 3), none, none, some (.iload_n 1, 1), some (.iaload, 1), some (.iconst 3, 1), some (.invokestatic 2130, 3), none, none, some (.ifCond .eq 18, 3), none, none, some (.aload_n 0, 1), some (.bipush 41, 2), none], [some (.invokevirtual 2105, 3), none, none, some (.aload_n 0, 1), some (.iload_n 1, 1), some (.iload_n 2, 1), some (.iconst 1, 1), some (.iadd, 1), some (.invokevirtual 2170, 3), none, none, some (.ireturn, 1), some (.aload_n 0, 1), some (.getfield 747, 3), none, none], [some (.iload_n 1, 1), some (.iaload, 1), some (.bipush 7, 2), none, some (.if_icmp .ne 25, 3), none, none, some (.aload_n 0, 1), some (.bipush 80, 2), none, some (.invokevirtual 2105, 3), none, none, some (.aload_n 0, 1), some (.iload_n 1, 1), some (.iload_n 2, 1)], [some (.invokevirtual 2162, 3), none, none, some (.istore_n 3, 1), some (.iload_n 3, 1), some (.aload_n 0, 1), some (.iload_n 1, 1), some (.iconst 2, 1), some (.invokevirtual 2202, 3), none, none, some (.iadd, 1), some (.ireturn, 1), some (.aload_n 0, 1), some (.getfield 747, 3), none], [none, some (.iload_n 1, 1), some (.iaload, 1), some (.iconst 2, 1), some (.if_icmp .ne 12, 3), none, none, some (.aload_n 0, 1), some (.iload_n 1, 1), some (.iload_n 2, 1), some (.invokevirtual 2170, 3), none, none, some (.goto 9, 3), none, none], [some (.aload_n 0, 1), some (.iload_n 1, 1), some (.iload_n 2, 1), some (.invokevirtual 2162, 3), none, none, some (.ireturn, 1)]]
def s_cd273 : sCode := [[some (.aload_n 0, 1), some (.bipush 11, 2), none, some (.invokevirtual 2105, 3), none, none, some (.iload_n 2, 1), some (.iload_n 1, 1), some (.ixor, 1), some (.ireturn, 1)]]
def s_cd274 : sCode := [[some (.aload_n 0, 1), some (.bipush 40, 2), none, some (.invokevirtual 2105, 3), none, none, some (.aload_n 0, 1), some (.iload_n 1, 1), some (.iload_n 2, 1), some (.invokevirtual 2186, 3), none, none, some (.iconst 3, 1), some (.imul, 1), some (.ireturn, 1)]]
def s_cd275 : sCode := [[some (.aload_n 0, 1), some (.getfield 747, 3), none, none, some (.iload_n 1, 1), some (.iaload, 1), some (.iconst 5, 1), some (.if_icmp .ne 25, 3), none, none, some (.aload_n 0, 1), some (.bipush 60, 2), none, some (.invokevirtual 2105, 3), none, none], [some (.aload_n 0, 1), some (.iload_n 1, 1), some (.iload_n 2, 1), some (.invokevirtual 2194, 3), none, none, some (.istore_n 3, 1), some (.iload_n 3, 1), some (.aload_n 0, 1), some (.iload_n 1, 1), some (.iconst 2, 1), some (.invokevirtual 2154, 3), none, none, some (.isub, 1), some (.ireturn, 1)], [some (.aload_n 0, 1), some (.getfield 747, 3), none, none, some (.iload_n 1, 1), some (.iaload, 1), some (.iconst 3, 1), some (.if_icmp .ne 12, 3), none, none, some (.aload_n 0, 1), some (.iload_n 1, 1), some (.iload_n 2, 1), some (.invokevirtual 2194, 3), none, none], [some (.goto 9, 3), none, none, some (.aload_n 0, 1), some (.iload_n 1, 1), some (.iload_n 2, 1), some (.invokevirtual 2186, 3), none, none, some (.ireturn, 1)]]
def s_cd276 : sCode := [[some (.aload_n 0, 1), some (.iconst 2, 1), some (.invokevirtual 2105, 3), none, none, some (.aload_n 0, 1), some (.iload_n 1, 1), some (.iload_n 2, 1), some (.invokevirtual 2178, 3), none, none, some (.istore_n 3, 1), some (.iload_n 3, 1), some (.aload_n 0, 1), some (.iload_n 1, 1), some (.iconst 1, 1)], [some (.invokevirtual 2202, 3), none, none, some (.isub, 1), some (.ireturn, 1)]]
def s_cd277 : sCode := [[some (.aload_n 0, 1), some (.getfield 747, 3), none, none, some (.iload_n 1, 1), some (.iaload, 1), some (.iconst 4, 1), some (.if_icmp .ne 18, 3), none, none, some (.aload_n 0, 1), some (.bipush 50, 2), none, some (.invokevirtual 2105, 3), none, none], [some (.aload_n 0, 1), some (.iload_n 1, 1), some (.iload_n 2, 1), some (.invokevirtual 2210, 3), none, none, some (.iconst 5, 1), some (.ixor, 1), some (.ireturn, 1), some (.aload_n 0, 1), some (.getfield 747, 3), none, none, some (.iload_n 1, 1), some (.iaload, 1), some (.iconst 5, 1)], [some (.if_icmp .ne 18, 3), none, none, some (.aload_n 0, 1), some (.bipush 61, 2), none, some (.invokevirtual 2105, 3), none, none, some (.aload_n 0, 1), some (.iload_n 1, 1), some (.iload_n 2, 1), some (.invokevirtual 2210, 3), none, none, some (.iconst 1, 1)], [some (.iadd, 1), some (.ireturn, 1), some (.aload_n 0, 1), some (.iload_n 1, 1), some (.iload_n 2, 1), some (.invokevirtual 2210, 3), none, none, some (.ireturn, 1)]]
def s_cd278 : sCode := [[some (.aload_n 0, 1), some (.iconst 0, 1), some (.putfield 748, 3), none, none, some (.aload_n 0, 1), some (.iload_n 1, 1), some (.invokevirtual 2097, 3), none, none, some (.ifCond .eq 12, 3), none, none, some (.iload_n 2, 1), some (.iconst 0, 1), some (.iconst 3, 1)], [some (.invokestatic 1451, 3), none, none, some (.ifCond .ne 5, 3), none, none, some (.iconst 0, 1), some (.ireturn, 1), some (.iload_n 2, 1), some (.ifCond .ne 12, 3), none, none, some (.aload_n 0, 1), some (.iload_n 1, 1), some (.iload_n 3, 1), some (.invokevirtual 2154, 3)], [none, none, some (.goto 37, 3), none, none, some (.iload_n 2, 1), some (.iconst 1, 1), some (.if_icmp .ne 12, 3), none, none, some (.aload_n 0, 1), some (.iload_n 1, 1), some (.iload_n 3, 1), some (.invokevirtual 2178, 3), none, none], [some (.goto 23, 3), none, none, some (.iload_n 2, 1), some (.iconst 2, 1), some (.if_icmp .ne 12, 3), none, none, some (.aload_n 0, 1), some (.iload_n 1, 1), some (.iload_n 3, 1), some (.invokevirtual 2202, 3), none, none, some (.goto 9, 3), none], [none, some (.aload_n 0, 1), some (.iload_n 1, 1), some (.iload_n 3, 1), some (.invokevirtual 2218, 3), none, none, some (.ireturn, 1)]]
def s_cd279 : sCode := [[some (.aload_n 0, 1), some (.iconst 0, 1), some (.iconst (-1), 1), some (.invokevirtual 1754, 3), none, none, some (.aload_n 0, 1), some (.invokevirtual 1816, 3), none, none, some (.ireturn, 1)]]
def s_cd280 : sCode := [[some (.iload_n 1, 1), some (.tableswitch 78 0 6 #[43, 48, 53, 58, 63, 68, 73], 43), none, none, none, none, none, none, none, none, none, none, none, none, none, none], [none, none, none, none, none, none, none, none, none, none, none, none, none, none, none, none], [none, none, none, none, none, none, none, none, none, none, none, none, some (.aload_n 0, 1), some (.getfield 718, 3), none, none], [some (.ireturn, 1), some (.aload_n 0, 1), some (.invokevirtual 1824, 3), none, none, some (.ireturn, 1), some (.aload_n 0, 1), some (.invokevirtual 2232, 3), none, none, some (.ireturn, 1), some (.aload_n 0, 1), some (.getfield 706, 3), none, none, some (.ireturn, 1)], [some (.aload_n 0, 1), some (.getfield 727, 3), none, none, some (.ireturn, 1), some (.aload_n 0, 1), some (.getfield 746, 3), none, none, some (.ireturn, 1), some (.aload_n 0, 1), some (.getfield 748, 3), none, none, some (.ireturn, 1), some (.iconst (-1), 1)], [some (.ireturn, 1)]]
def s_cd281 : sCode := [[some (.iload_n 0, 1), some (.iconst 0, 1), some (.iconst 5, 1), some (.invokestatic 1451, 3), none, none, some (.ireturn, 1)]]
def s_cd282 : sCode := [[some (.iload_n 1, 1), some (.invokestatic 2249, 3), none, none, some (.ifCond .eq 16, 3), none, none, some (.iload_n 2, 1), some (.iconst (-1), 1), some (.if_icmp .eq 13, 3), none, none, some (.aload_n 0, 1), some (.iload_n 2, 1), some (.invokevirtual 2097, 3), none], [none, some (.ifCond .ne 5, 3), none, none, some (.iconst (-1), 1), some (.ireturn, 1), some (.aload_n 0, 1), some (.getfield 750, 3), none, none, some (.iload_n 1, 1), some (.iload_n 2, 1), some (.iastore, 1), some (.iconst 1, 1), some (.ireturn, 1)]]
def s_cd283 : sCode := [[some (.iload_n 1, 1), some (.invokestatic 2249, 3), none, none, some (.ifCond .eq 18, 3), none, none, some (.iload_n 2, 1), some (.iconst 0, 1), some (.iconst 4, 1), some (.invokestatic 1451, 3), none, none, some (.ifCond .eq 9, 3), none, none], [some (.iload_n 3, 1), some (.bipush 60, 2), none, some (.if_icmp .le 5, 3), none, none, some (.iconst (-1), 1), some (.ireturn, 1), some (.iload_n 3, 1), some (.ifCond .ge 6, 3), none, none, some (.bipush (-14), 2), none, some (.ireturn, 1), some (.aload_n 0, 1)], [some (.getfield 750, 3), none, none, some (.iload_n 1, 1), some (.bipush (-2), 2), none, some (.iload_n 2, 1), some (.isub, 1), some (.iastore, 1), some (.aload_n 0, 1), some (.getfield 751, 3), none, none, some (.iload_n 1, 1), some (.iload_n 3, 1), some (.iastore, 1)], [some (.bipush 60, 2), none, some (.iload_n 1, 1), some (.imul, 1), some (.istore 4, 2), none, some (.iload 4, 2), none, some (.bipush 60, 2), none, some (.iload_n 1, 1), some (.imul, 1), some (.bipush 60, 2), none, some (.iadd, 1), some (.if_icmp .ge 17, 3)], [none, none, some (.aload_n 0, 1), some (.getfield 752, 3), none, none, some (.iload 4, 2), none, some (.lconst 0, 1), some (.lastore, 1), some (.iinc 4 1, 3), none, none, some (.goto (-23), 3), none, none], [some (.iconst 1, 1), some (.ireturn, 1)]]
def s_cd284 : sCode := [[some (.iload_n 1, 1), some (.invokestatic 2249, 3), none, none, some (.ifCond .ne 5, 3), none, none, some (.iconst (-1), 1), some (.ireturn, 1), some (.aload_n 0, 1), some (.getfield 750, 3), none, none, some (.iload_n 1, 1), some (.iaload, 1), some (.iconst (-1), 1)], [some (.if_icmp .ne 6, 3), none, none, some (.bipush (-11), 2), none, some (.ireturn, 1), some (.aload_n 0, 1), some (.getfield 750, 3), none, none, some (.iload_n 1, 1), some (.iaload, 1), some (.ifCond .lt 6, 3), none, none, some (.bipush (-12), 2)], [none, some (.ireturn, 1), some (.iload_n 2, 1), some (.iconst 0, 1), some (.aload_n 0, 1), some (.getfield 751, 3), none, none, some (.iload_n 1, 1), some (.iaload, 1), some (.iconst 1, 1), some (.isub, 1), some (.invokestatic 1451, 3), none, none, some (.ifCond .eq 7, 3)], [none, none, some (.iconst 0, 1), some (.goto 5, 3), none, none, some (.bipush (-13), 2), none, some (.ireturn, 1)]]
def s_cd285 : sCode := [[some (.aload_n 0, 1), some (.iload_n 1, 1), some (.iload_n 2, 1), some (.invokevirtual 2274, 3), none, none, some (.istore 5, 2), none, some (.iload 5, 2), none, some (.ifCond .ge 6, 3), none, none, some (.iload 5, 2), none, some (.ireturn, 1)], [some (.bipush (-2), 2), none, some (.aload_n 0, 1), some (.getfield 750, 3), none, none, some (.iload_n 1, 1), some (.iaload, 1), some (.isub, 1), some (.istore 6, 2), none, some (.aload_n 0, 1), some (.getfield 752, 3), none, none, some (.bipush 60, 2)], [none, some (.iload_n 1, 1), some (.imul, 1), some (.iload_n 2, 1), some (.iadd, 1), some (.iload 6, 2), none, some (.ifCond .ne 10, 3), none, none, some (.lload_n 3, 1), some (.l2i, 1), some (.i2b, 1), some (.i2l, 1), some (.goto 49, 3), none], [none, some (.iload 6, 2), none, some (.iconst 1, 1), some (.if_icmp .ne 10, 3), none, none, some (.lload_n 3, 1), some (.l2i, 1), some (.i2s, 1), some (.i2l, 1), some (.goto 36, 3), none, none, some (.iload 6, 2), none], [some (.iconst 2, 1), some (.if_icmp .ne 9, 3), none, none, some (.lload_n 3, 1), some (.l2i, 1), some (.i2l, 1), some (.goto 24, 3), none, none, some (.iload 6, 2), none, some (.iconst 3, 1), some (.if_icmp .ne 7, 3), none, none], [some (.lload_n 3, 1), some (.goto 14, 3), none, none, some (.lload_n 3, 1), some (.lconst 0, 1), some (.lcmp, 1), some (.ifCond .eq 7, 3), none, none, some (.lconst 1, 1), some (.goto 4, 3), none, none, some (.lconst 0, 1), some (.lastore, 1)], [some (.iconst 1, 1), some (.ireturn, 1)]]
def s_cd286 : sCode := [[some (.aload_n 0, 1), some (.iload_n 1, 1), some (.iload_n 2, 1), some (.invokevirtual 2274, 3), none, none, some (.ifCond .ge 9, 3), none, none, some (.ldc2_w 9223372036854775808, 3), none, none, some (.goto 14, 3), none, none, some (.aload_n 0, 1)], [some (.getfield 752, 3), none, none, some (.bipush 60, 2), none, some (.iload_n 1, 1), some (.imul, 1), some (.iload_n 2, 1), some (.iadd, 1), some (.laload, 1), some (.lreturn, 1)]]
def s_cd287 : sCode := [[some (.iload_n 1, 1), some (.invokestatic 2249, 3), none, none, some (.ifCond .eq 10, 3), none, none, some (.iload_n 3, 1), some (.invokestatic 2249, 3), none, none, some (.ifCond .ne 5, 3), none, none, some (.iconst (-1), 1), some (.ireturn, 1)], [some (.aload_n 0, 1), some (.getfield 750, 3), none, none, some (.iload_n 1, 1), some (.iaload, 1), some (.iconst (-1), 1), some (.if_icmp .eq 13, 3), none, none, some (.aload_n 0, 1), some (.getfield 750, 3), none, none, some (.iload_n 3, 1), some (.iaload, 1)], [some (.iconst (-1), 1), some (.if_icmp .ne 6, 3), none, none, some (.bipush (-11), 2), none, some (.ireturn, 1), some (.aload_n 0, 1), some (.getfield 750, 3), none, none, some (.iload_n 1, 1), some (.iaload, 1), some (.ifCond .ge 18, 3), none, none], [some (.aload_n 0, 1), some (.getfield 750, 3), none, none, some (.iload_n 1, 1), some (.iaload, 1), some (.aload_n 0, 1), some (.getfield 750, 3), none, none, some (.iload_n 3, 1), some (.iaload, 1), some (.if_icmp .eq 6, 3), none, none, some (.bipush (-12), 2)], [none, some (.ireturn, 1), some (.iload 5, 2), none, some (.ifCond .lt 39, 3), none, none, some (.iload_n 2, 1), some (.ifCond .lt 35, 3), none, none, some (.iload 4, 2), none, some (.ifCond .lt 30, 3), none, none], [some (.iload_n 2, 1), some (.aload_n 0, 1), some (.getfield 751, 3), none, none, some (.iload_n 1, 1), some (.iaload, 1), some (.iload 5, 2), none, some (.isub, 1), some (.if_icmp .gt 17, 3), none, none, some (.iload 4, 2), none, some (.aload_n 0, 1)], [some (.getfield 751, 3), none, none, some (.iload_n 3, 1), some (.iaload, 1), some (.iload 5, 2), none, some (.isub, 1), some (.if_icmp .le 6, 3), none, none, some (.bipush (-13), 2), none, some (.ireturn, 1), some (.iconst 0, 1), some (.istore 6, 2)], [none, some (.iload 6, 2), none, some (.iload 5, 2), none, some (.if_icmp .ge 30, 3), none, none, some (.aload_n 0, 1), some (.getfield 753, 3), none, none, some (.iload 6, 2), none, some (.aload_n 0, 1), some (.getfield 752, 3)], [none, none, some (.bipush 60, 2), none, some (.iload_n 1, 1), some (.imul, 1), some (.iload_n 2, 1), some (.iadd, 1), some (.iload 6, 2), none, some (.iadd, 1), some (.laload, 1), some (.lastore, 1), some (.iinc 6 1, 3), none, none], [some (.goto (-31), 3), none, none, some (.iconst 0, 1), some (.istore 6, 2), none, some (.iload 6, 2), none, some (.iload 5, 2), none, some (.if_icmp .ge 31, 3), none, none, some (.aload_n 0, 1), some (.getfield 752, 3), none], [none, some (.bipush 60, 2), none, some (.iload_n 3, 1), some (.imul, 1), some (.iload 4, 2), none, some (.iadd, 1), some (.iload 6, 2), none, some (.iadd, 1), some (.aload_n 0, 1), some (.getfield 753, 3), none, none, some (.iload 6, 2)], [none, some (.laload, 1), some (.lastore, 1), some (.iinc 6 1, 3), none, none, some (.goto (-32), 3), none, none, some (.iload 5, 2), none, some (.ireturn, 1)]]
def s_cd288 : sCode := [[some (.iload_n 1, 1), some (.invokestatic 2249, 3), none, none, some (.ifCond .eq 13, 3), none, none, some (.iload_n 2, 1), some (.iconst 0, 1), some (.bipush 7, 2), none, some (.invokestatic 1451, 3), none, none, some (.ifCond .ne 5, 3), none], [none, some (.iconst (-1), 1), some (.ireturn, 1), some (.aload_n 0, 1), some (.getfield 750, 3), none, none, some (.iload_n 1, 1), some (.iaload, 1), some (.iconst (-1), 1), some (.if_icmp .ne 6, 3), none, none, some (.bipush (-11), 2), none, some (.ireturn, 1)], [some (.aload_n 0, 1), some (.getfield 750, 3), none, none, some (.iload_n 1, 1), some (.iaload, 1), some (.ifCond .lt 35, 3), none, none, some (.aload_n 0, 1), some (.getfield 747, 3), none, none, some (.aload_n 0, 1), some (.getfield 750, 3), none], [none, some (.iload_n 1, 1), some (.iaload, 1), some (.iaload, 1), some (.iload_n 2, 1), some (.invokestatic 2130, 3), none, none, some (.ifCond .eq 17, 3), none, none, some (.aload_n 0, 1), some (.getfield 747, 3), none, none, some (.aload_n 0, 1)], [some (.getfield 750, 3), none, none, some (.iload_n 1, 1), some (.iaload, 1), some (.iaload, 1), some (.goto 5, 3), none, none, some (.bipush (-12), 2), none, some (.ireturn, 1)]]
def s_cd289 : sCode := [[some (.iload_n 0, 1), some (.iload_n 0, 1), some (.iconst 1, 1), some (.iushr, 1), some (.ldc_w 1431655765, 3), none, none, some (.iand, 1), some (.isub, 1), some (.istore_n 0, 1), some (.iload_n 0, 1), some (.ldc_w 858993459, 3), none, none, some (.iand, 1), some (.iload_n 0, 1)], [some (.iconst 2, 1), some (.iushr, 1), some (.ldc_w 858993459, 3), none, none, some (.iand, 1), some (.iadd, 1), some (.istore_n 0, 1), some (.iload_n 0, 1), some (.iload_n 0, 1), some (.iconst 4, 1), some (.iushr, 1), some (.iadd, 1), some (.ldc_w 252645135, 3), none, none], [some (.iand, 1), some (.istore_n 0, 1), some (.iload_n 0, 1), some (.iload_n 0, 1), some (.bipush 8, 2), none, some (.iushr, 1), some (.iadd, 1), some (.istore_n 0, 1), some (.iload_n 0, 1), some (.iload_n 0, 1), some (.bipush 16, 2), none, some (.iushr, 1), some (.iadd, 1), some (.istore_n 0, 1)], [some (.iload_n 0, 1), some (.bipush 63, 2), none, some (.iand, 1), some (.ireturn, 1)]]
def s_cd290 : sCode := [[some (.lload_n 0, 1), some (.lload_n 0, 1), some (.iconst 1, 1), some (.lushr, 1), some (.ldc2_w 6148914691236517205, 3), none, none, some (.land, 1), some (.lsub, 1), some (.lstore_n 0, 1), some (.lload_n 0, 1), some (.ldc2_w 3689348814741910323, 3), none, none, some (.land, 1), some (.lload_n 0, 1)], [some (.iconst 2, 1), some (.lushr, 1), some (.ldc2_w 3689348814741910323, 3), none, none, some (.land, 1), some (.ladd, 1), some (.lstore_n 0, 1), some (.lload_n 0, 1), some (.lload_n 0, 1), some (.iconst 4, 1), some (.lushr, 1), some (.ladd, 1), some (.ldc2_w 1085102592571150095, 3), none, none], [some (.land, 1), some (.lstore_n 0, 1), some (.lload_n 0, 1), some (.lload_n 0, 1), some (.bipush 8, 2), none, some (.lushr, 1), some (.ladd, 1), some (.lstore_n 0, 1), some (.lload_n 0, 1), some (.lload_n 0, 1), some (.bipush 16, 2), none, some (.lushr, 1), some (.ladd, 1), some (.lstore_n 0, 1)], [some (.lload_n 0, 1), some (.lload_n 0, 1), some (.bipush 32, 2), none, some (.lushr, 1), some (.ladd, 1), some (.lstore_n 0, 1), some (.lload_n 0, 1), some (.l2i, 1), some (.bipush 127, 2), none, some (.iand, 1), some (.ireturn, 1)]]
def s_cd291 : sCode := [[some (.new 10, 3), none, none, some (.dup, 1), some (.invokespecial 1064, 3), none, none, some (.astore_n 1, 1), some (.new 11, 3), none, none, some (.dup, 1), some (.invokespecial 1440, 3), none, none, some (.astore_n 2, 1)], [some (.iconst 0, 1), some (.istore_n 3, 1), some (.iload_n 3, 1), some (.aload_n 0, 1), some (.arraylength, 1), some (.bipush 6, 2), none, some (.isub, 1), some (.if_icmp .gt 1175, 3), none, none, some (.aload_n 0, 1), some (.iload_n 3, 1), some (.iaload, 1), some (.bipush 31, 2), none], [some (.iand, 1), some (.tableswitch 1160 0 31 #[143, 166, 199, 242, 285, 328, 361, 394, 427, 450, 463, 496, 539, 582, 615, 638, 671, 704, 717, 730, 743, 756, 769, 792, 835, 858, 891, 934, 1007, 1041, 1104, 1137], 143), none, none, none, none, none, none, none, none, none, none, none, none, none, none], [none, none, none, none, none, none, none, none, none, none, none, none, none, none, none, none], [none, none, none, none, none, none, none, none, none, none, none, none, none, none, none, none], [none, none, none, none, none, none, none, none, none, none, none, none, none, none, none, none], [none, none, none, none, none, none, none, none, none, none, none, none, none, none, none, none], [none, none, none, none, none, none, none, none, none, none, none, none, none, none, none, none], [none, none, none, none, none, none, none, none, none, none, none, none, none, none, none, none], [none, none, none, none, none, none, none, none, none, none, none, none, none, none, none, none], [none, none, none, none, none, none, none, none, none, none, none, none, none, none, none, none], [some (.aload_n 1, 1), some (.aload_n 0, 1), some (.iload_n 3, 1), some (.iconst 1, 1), some (.iadd, 1), some (.iaload, 1), some (.invokevirtual 1073, 3), none, none, some (.aload_n 2, 1), some (.aload_n 0, 1), some (.iload_n 3, 1), some (.iconst 1, 1), some (.iadd, 1), some (.iaload, 1), some (.invokevirtual 1465, 3)], [none, none, some (.if_icmp .eq 999, 3), none, none, some (.iconst 0, 1), some (.ireturn, 1), some (.aload_n 1, 1), some (.aload_n 0, 1), some (.iload_n 3, 1), some (.iconst 1, 1), some (.iadd, 1), some (.iaload, 1), some (.aload_n 0, 1), some (.iload_n 3, 1), some (.iconst 2, 1)], [some (.iadd, 1), some (.iaload, 1), some (.invokevirtual 1082, 3), none, none, some (.aload_n 2, 1), some (.aload_n 0, 1), some (.iload_n 3, 1), some (.iconst 1, 1), some (.iadd, 1), some (.iaload, 1), some (.aload_n 0, 1), some (.iload_n 3, 1), some (.iconst 2, 1), some (.iadd, 1), some (.iaload, 1)], [some (.invokevirtual 1634, 3), none, none, some (.if_icmp .eq 966, 3), none, none, some (.iconst 0, 1), some (.ireturn, 1), some (.aload_n 1, 1), some (.aload_n 0, 1), some (.iload_n 3, 1), some (.iconst 1, 1), some (.iadd, 1), some (.iaload, 1), some (.aload_n 0, 1), some (.iload_n 3, 1)], [some (.iconst 2, 1), some (.iadd, 1), some (.iaload, 1), some (.aload_n 0, 1), some (.iload_n 3, 1), some (.iconst 3, 1), some (.iadd, 1), some (.iaload, 1), some (.invokevirtual 1091, 3), none, none, some (.aload_n 2, 1), some (.aload_n 0, 1), some (.iload_n 3, 1), some (.iconst 1, 1), some (.iadd, 1)], [some (.iaload, 1), some (.aload_n 0, 1), some (.iload_n 3, 1), some (.iconst 2, 1), some (.iadd, 1), some (.iaload, 1), some (.aload_n 0, 1), some (.iload_n 3, 1), some (.iconst 3, 1), some (.iadd, 1), some (.iaload, 1), some (.invokevirtual 1659, 3), none, none, some (.if_icmp .eq 923, 3), none], [none, some (.iconst 0, 1), some (.ireturn, 1), some (.aload_n 1, 1), some (.aload_n 0, 1), some (.iload_n 3, 1), some (.iconst 1, 1), some (.iadd, 1), some (.iaload, 1), some (.aload_n 0, 1), some (.iload_n 3, 1), some (.iconst 2, 1), some (.iadd, 1), some (.iaload, 1), some (.aload_n 0, 1), some (.iload_n 3, 1)], [some (.iconst 3, 1), some (.iadd, 1), some (.iaload, 1), some (.invokevirtual 1107, 3), none, none, some (.aload_n 2, 1), some (.aload_n 0, 1), some (.iload_n 3, 1), some (.iconst 1, 1), some (.iadd, 1), some (.iaload, 1), some (.aload_n 0, 1), some (.iload_n 3, 1), some (.iconst 2, 1), some (.iadd, 1)], [some (.iaload, 1), some (.aload_n 0, 1), some (.iload_n 3, 1), some (.iconst 3, 1), some (.iadd, 1), some (.iaload, 1), some (.invokevirtual 1707, 3), none, none, some (.if_icmp .eq 880, 3), none, none, some (.iconst 0, 1), some (.ireturn, 1), some (.aload_n 1, 1), some (.aload_n 0, 1)], [some (.iload_n 3, 1), some (.iconst 1, 1), some (.iadd, 1), some (.iaload, 1), some (.aload_n 0, 1), some (.iload_n 3, 1), some (.iconst 2, 1), some (.iadd, 1), some (.iaload, 1), some (.aload_n 0, 1), some (.iload_n 3, 1), some (.iconst 3, 1), some (.iadd, 1), some (.iaload, 1), some (.invokevirtual 1123, 3), none], [none, some (.aload_n 2, 1), some (.aload_n 0, 1), some (.iload_n 3, 1), some (.iconst 1, 1), some (.iadd, 1), some (.iaload, 1), some (.aload_n 0, 1), some (.iload_n 3, 1), some (.iconst 2, 1), some (.iadd, 1), some (.iaload, 1), some (.aload_n 0, 1), some (.iload_n 3, 1), some (.iconst 3, 1), some (.iadd, 1)], [some (.iaload, 1), some (.invokevirtual 1715, 3), none, none, some (.if_icmp .eq 837, 3), none, none, some (.iconst 0, 1), some (.ireturn, 1), some (.aload_n 1, 1), some (.aload_n 0, 1), some (.iload_n 3, 1), some (.iconst 1, 1), some (.iadd, 1), some (.iaload, 1), some (.aload_n 0, 1)], [some (.iload_n 3, 1), some (.iconst 2, 1), some (.iadd, 1), some (.iaload, 1), some (.invokevirtual 1130, 3), none, none, some (.aload_n 2, 1), some (.aload_n 0, 1), some (.iload_n 3, 1), some (.iconst 1, 1), some (.iadd, 1), some (.iaload, 1), some (.aload_n 0, 1), some (.iload_n 3, 1), some (.iconst 2, 1)], [some (.iadd, 1), some (.iaload, 1), some (.invokevirtual 1834, 3), none, none, some (.if_icmp .eq 804, 3), none, none, some (.iconst 0, 1), some (.ireturn, 1), some (.aload_n 1, 1), some (.aload_n 0, 1), some (.iload_n 3, 1), some (.iconst 1, 1), some (.iadd, 1), some (.iaload, 1)], [some (.aload_n 0, 1), some (.iload_n 3, 1), some (.iconst 2, 1), some (.iadd, 1), some (.iaload, 1), some (.invokevirtual 1146, 3), none, none, some (.aload_n 2, 1), some (.aload_n 0, 1), some (.iload_n 3, 1), some (.iconst 1, 1), some (.iadd, 1), some (.iaload, 1), some (.aload_n 0, 1), some (.iload_n 3, 1)], [some (.iconst 2, 1), some (.iadd, 1), some (.iaload, 1), some (.invokevirtual 1874, 3), none, none, some (.if_icmp .eq 771, 3), none, none, some (.iconst 0, 1), some (.ireturn, 1), some (.aload_n 1, 1), some (.aload_n 0, 1), some (.iload_n 3, 1), some (.iconst 1, 1), some (.iadd, 1)], [some (.iaload, 1), some (.aload_n 0, 1), some (.iload_n 3, 1), some (.iconst 2, 1), some (.iadd, 1), some (.iaload, 1), some (.invokevirtual 1154, 3), none, none, some (.aload_n 2, 1), some (.aload_n 0, 1), some (.iload_n 3, 1), some (.iconst 1, 1), some (.iadd, 1), some (.iaload, 1), some (.aload_n 0, 1)], [some (.iload_n 3, 1), some (.iconst 2, 1), some (.iadd, 1), some (.iaload, 1), some (.invokevirtual 1882, 3), none, none, some (.if_icmp .eq 738, 3), none, none, some (.iconst 0, 1), some (.ireturn, 1), some (.aload_n 1, 1), some (.aload_n 0, 1), some (.iload_n 3, 1), some (.iconst 1, 1)], [some (.iadd, 1), some (.iaload, 1), some (.invokevirtual 1161, 3), none, none, some (.aload_n 2, 1), some (.aload_n 0, 1), some (.iload_n 3, 1), some (.iconst 1, 1), some (.iadd, 1), some (.iaload, 1), some (.invokevirtual 1929, 3), none, none, some (.if_icmp .eq 715, 3), none], [none, some (.iconst 0, 1), some (.ireturn, 1), some (.aload_n 1, 1), some (.invokevirtual 1168, 3), none, none, some (.aload_n 2, 1), some (.invokevirtual 1936, 3), none, none, some (.if_icmp .eq 702, 3), none, none, some (.iconst 0, 1), some (.ireturn, 1)], [some (.aload_n 1, 1), some (.aload_n 0, 1), some (.iload_n 3, 1), some (.iconst 1, 1), some (.iadd, 1), some (.iaload, 1), some (.aload_n 0, 1), some (.iload_n 3, 1), some (.iconst 2, 1), some (.iadd, 1), some (.iaload, 1), some (.invokevirtual 1178, 3), none, none, some (.aload_n 2, 1), some (.aload_n 0, 1)], [some (.iload_n 3, 1), some (.iconst 1, 1), some (.iadd, 1), some (.iaload, 1), some (.aload_n 0, 1), some (.iload_n 3, 1), some (.iconst 2, 1), some (.iadd, 1), some (.iaload, 1), some (.invokevirtual 1946, 3), none, none, some (.if_icmp .eq 669, 3), none, none, some (.iconst 0, 1)], [some (.ireturn, 1), some (.aload_n 1, 1), some (.aload_n 0, 1), some (.iload_n 3, 1), some (.iconst 1, 1), some (.iadd, 1), some (.iaload, 1), some (.aload_n 0, 1), some (.iload_n 3, 1), some (.iconst 2, 1), some (.iadd, 1), some (.iaload, 1), some (.aload_n 0, 1), some (.iload_n 3, 1), some (.iconst 3, 1), some (.iadd, 1)], [some (.iaload, 1), some (.invokevirtual 1187, 3), none, none, some (.aload_n 2, 1), some (.aload_n 0, 1), some (.iload_n 3, 1), some (.iconst 1, 1), some (.iadd, 1), some (.iaload, 1), some (.aload_n 0, 1), some (.iload_n 3, 1), some (.iconst 2, 1), some (.iadd, 1), some (.iaload, 1), some (.aload_n 0, 1)], [some (.iload_n 3, 1), some (.iconst 3, 1), some (.iadd, 1), some (.iaload, 1), some (.invokevirtual 1995, 3), none, none, some (.if_icmp .eq 626, 3), none, none, some (.iconst 0, 1), some (.ireturn, 1), some (.aload_n 1, 1), some (.aload_n 0, 1), some (.iload_n 3, 1), some (.iconst 1, 1)], [some (.iadd, 1), some (.iaload, 1), some (.aload_n 0, 1), some (.iload_n 3, 1), some (.iconst 2, 1), some (.iadd, 1), some (.iaload, 1), some (.aload_n 0, 1), some (.iload_n 3, 1), some (.iconst 3, 1), some (.iadd, 1), some (.iaload, 1), some (.invokevirtual 1195, 3), none, none, some (.aload_n 2, 1)], [some (.aload_n 0, 1), some (.iload_n 3, 1), some (.iconst 1, 1), some (.iadd, 1), some (.iaload, 1), some (.aload_n 0, 1), some (.iload_n 3, 1), some (.iconst 2, 1), some (.iadd, 1), some (.iaload, 1), some (.aload_n 0, 1), some (.iload_n 3, 1), some (.iconst 3, 1), some (.iadd, 1), some (.iaload, 1), some (.invokevirtual 2011, 3)], [none, none, some (.if_icmp .eq 583, 3), none, none, some (.iconst 0, 1), some (.ireturn, 1), some (.aload_n 1, 1), some (.aload_n 0, 1), some (.iload_n 3, 1), some (.iconst 1, 1), some (.iadd, 1), some (.iaload, 1), some (.aload_n 0, 1), some (.iload_n 3, 1), some (.iconst 2, 1)], [some (.iadd, 1), some (.iaload, 1), some (.invokevirtual 1202, 3), none, none, some (.aload_n 2, 1), some (.aload_n 0, 1), some (.iload_n 3, 1), some (.iconst 1, 1), some (.iadd, 1), some (.iaload, 1), some (.aload_n 0, 1), some (.iload_n 3, 1), some (.iconst 2, 1), some (.iadd, 1), some (.iaload, 1)], [some (.invokevirtual 2034, 3), none, none, some (.if_icmp .eq 550, 3), none, none, some (.iconst 0, 1), some (.ireturn, 1), some (.aload_n 1, 1), some (.aload_n 0, 1), some (.iload_n 3, 1), some (.iconst 1, 1), some (.iadd, 1), some (.iaload, 1), some (.invokevirtual 1209, 3), none], [none, some (.aload_n 2, 1), some (.aload_n 0, 1), some (.iload_n 3, 1), some (.iconst 1, 1), some (.iadd, 1), some (.iaload, 1), some (.invokevirtual 2041, 3), none, none, some (.if_icmp .eq 527, 3), none, none, some (.iconst 0, 1), some (.ireturn, 1), some (.aload_n 1, 1)], [some (.aload_n 0, 1), some (.iload_n 3, 1), some (.iconst 1, 1), some (.iadd, 1), some (.iaload, 1), some (.aload_n 0, 1), some (.iload_n 3, 1), some (.iconst 2, 1), some (.iadd, 1), some (.iaload, 1), some (.invokevirtual 1218, 3), none, none, some (.aload_n 2, 1), some (.aload_n 0, 1), some (.iload_n 3, 1)], [some (.iconst 1, 1), some (.iadd, 1), some (.iaload, 1), some (.aload_n 0, 1), some (.iload_n 3, 1), some (.iconst 2, 1), some (.iadd, 1), some (.iaload, 1), some (.invokevirtual 2050, 3), none, none, some (.if_icmp .eq 494, 3), none, none, some (.iconst 0, 1), some (.ireturn, 1)], [some (.aload_n 1, 1), some (.aload_n 0, 1), some (.iload_n 3, 1), some (.iconst 1, 1), some (.iadd, 1), some (.iaload, 1), some (.aload_n 0, 1), some (.iload_n 3, 1), some (.iconst 2, 1), some (.iadd, 1), some (.iaload, 1), some (.invokevirtual 1226, 3), none, none, some (.aload_n 2, 1), some (.aload_n 0, 1)], [some (.iload_n 3, 1), some (.iconst 1, 1), some (.iadd, 1), some (.iaload, 1), some (.aload_n 0, 1), some (.iload_n 3, 1), some (.iconst 2, 1), some (.iadd, 1), some (.iaload, 1), some (.invokevirtual 2058, 3), none, none, some (.if_icmp .eq 461, 3), none, none, some (.iconst 0, 1)], [some (.ireturn, 1), some (.aload_n 1, 1), some (.invokevirtual 1232, 3), none, none, some (.aload_n 2, 1), some (.invokevirtual 2072, 3), none, none, some (.if_icmp .eq 448, 3), none, none, some (.iconst 0, 1), some (.ireturn, 1), some (.aload_n 1, 1), some (.invokevirtual 1240, 3)], [none, none, some (.aload_n 2, 1), some (.invokevirtual 2080, 3), none, none, some (.if_icmp .eq 435, 3), none, none, some (.iconst 0, 1), some (.ireturn, 1), some (.aload_n 1, 1), some (.invokevirtual 1248, 3), none, none, some (.aload_n 2, 1)], [some (.invokevirtual 2088, 3), none, none, some (.if_icmp .eq 422, 3), none, none, some (.iconst 0, 1), some (.ireturn, 1), some (.aload_n 1, 1), some (.invokevirtual 1256, 3), none, none, some (.aload_n 2, 1), some (.invokevirtual 1688, 3), none, none], [some (.if_icmp .eq 409, 3), none, none, some (.iconst 0, 1), some (.ireturn, 1), some (.aload_n 1, 1), some (.invokevirtual 1264, 3), none, none, some (.aload_n 2, 1), some (.invokevirtual 1696, 3), none, none, some (.if_icmp .eq 396, 3), none, none], [some (.iconst 0, 1), some (.ireturn, 1), some (.aload_n 1, 1), some (.aload_n 0, 1), some (.iload_n 3, 1), some (.iconst 1, 1), some (.iadd, 1), some (.iaload, 1), some (.invokevirtual 1273, 3), none, none, some (.aload_n 2, 1), some (.aload_n 0, 1), some (.iload_n 3, 1), some (.iconst 1, 1), some (.iadd, 1)], [some (.iaload, 1), some (.invokevirtual 2121, 3), none, none, some (.if_icmp .eq 373, 3), none, none, some (.iconst 0, 1), some (.ireturn, 1), some (.aload_n 1, 1), some (.aload_n 0, 1), some (.iload_n 3, 1), some (.iconst 1, 1), some (.iadd, 1), some (.iaload, 1), some (.aload_n 0, 1)], [some (.iload_n 3, 1), some (.iconst 2, 1), some (.iadd, 1), some (.iaload, 1), some (.aload_n 0, 1), some (.iload_n 3, 1), some (.iconst 3, 1), some (.iadd, 1), some (.iaload, 1), some (.invokevirtual 1283, 3), none, none, some (.aload_n 2, 1), some (.aload_n 0, 1), some (.iload_n 3, 1), some (.iconst 1, 1)], [some (.iadd, 1), some (.iaload, 1), some (.aload_n 0, 1), some (.iload_n 3, 1), some (.iconst 2, 1), some (.iadd, 1), some (.iaload, 1), some (.aload_n 0, 1), some (.iload_n 3, 1), some (.iconst 3, 1), some (.iadd, 1), some (.iaload, 1), some (.invokevirtual 2227, 3), none, none, some (.if_icmp .eq 330, 3)], [none, none, some (.iconst 0, 1), some (.ireturn, 1), some (.aload_n 1, 1), some (.aload_n 0, 1), some (.iload_n 3, 1), some (.iconst 1, 1), some (.iadd, 1), some (.iaload, 1), some (.invokevirtual 1289, 3), none, none, some (.aload_n 2, 1), some (.aload_n 0, 1), some (.iload_n 3, 1)], [some (.iconst 1, 1), some (.iadd, 1), some (.iaload, 1), some (.invokevirtual 2113, 3), none, none, some (.if_icmp .eq 307, 3), none, none, some (.iconst 0, 1), some (.ireturn, 1), some (.aload_n 1, 1), some (.aload_n 0, 1), some (.iload_n 3, 1), some (.iconst 1, 1), some (.iadd, 1)], [some (.iaload, 1), some (.aload_n 0, 1), some (.iload_n 3, 1), some (.iconst 2, 1), some (.iadd, 1), some (.iaload, 1), some (.invokevirtual 1298, 3), none, none, some (.aload_n 2, 1), some (.aload_n 0, 1), some (.iload_n 3, 1), some (.iconst 1, 1), some (.iadd, 1), some (.iaload, 1), some (.aload_n 0, 1)], [some (.iload_n 3, 1), some (.iconst 2, 1), some (.iadd, 1), some (.iaload, 1), some (.invokevirtual 2258, 3), none, none, some (.if_icmp .eq 274, 3), none, none, some (.iconst 0, 1), some (.ireturn, 1), some (.aload_n 1, 1), some (.aload_n 0, 1), some (.iload_n 3, 1), some (.iconst 1, 1)], [some (.iadd, 1), some (.iaload, 1), some (.aload_n 0, 1), some (.iload_n 3, 1), some (.iconst 2, 1), some (.iadd, 1), some (.iaload, 1), some (.aload_n 0, 1), some (.iload_n 3, 1), some (.iconst 3, 1), some (.iadd, 1), some (.iaload, 1), some (.invokevirtual 1307, 3), none, none, some (.aload_n 2, 1)], [some (.aload_n 0, 1), some (.iload_n 3, 1), some (.iconst 1, 1), some (.iadd, 1), some (.iaload, 1), some (.aload_n 0, 1), some (.iload_n 3, 1), some (.iconst 2, 1), some (.iadd, 1), some (.iaload, 1), some (.aload_n 0, 1), some (.iload_n 3, 1), some (.iconst 3, 1), some (.iadd, 1), some (.iaload, 1), some (.invokevirtual 2267, 3)], [none, none, some (.if_icmp .eq 231, 3), none, none, some (.iconst 0, 1), some (.ireturn, 1), some (.aload_n 1, 1), some (.aload_n 0, 1), some (.iload_n 3, 1), some (.iconst 1, 1), some (.iadd, 1), some (.iaload, 1), some (.aload_n 0, 1), some (.iload_n 3, 1), some (.iconst 2, 1)], [some (.iadd, 1), some (.iaload, 1), some (.aload_n 0, 1), some (.iload_n 3, 1), some (.iconst 3, 1), some (.iadd, 1), some (.iaload, 1), some (.i2l, 1), some (.bipush 32, 2), none, some (.lshl, 1), some (.aload_n 0, 1), some (.iload_n 3, 1), some (.iconst 4, 1), some (.iadd, 1), some (.iaload, 1)], [some (.i2l, 1), some (.ldc2_w 4294967295, 3), none, none, some (.land, 1), some (.lor, 1), some (.invokevirtual 1315, 3), none, none, some (.aload_n 2, 1), some (.aload_n 0, 1), some (.iload_n 3, 1), some (.iconst 1, 1), some (.iadd, 1), some (.iaload, 1), some (.aload_n 0, 1)], [some (.iload_n 3, 1), some (.iconst 2, 1), some (.iadd, 1), some (.iaload, 1), some (.aload_n 0, 1), some (.iload_n 3, 1), some (.iconst 3, 1), some (.iadd, 1), some (.iaload, 1), some (.i2l, 1), some (.bipush 32, 2), none, some (.lshl, 1), some (.aload_n 0, 1), some (.iload_n 3, 1), some (.iconst 4, 1)], [some (.iadd, 1), some (.iaload, 1), some (.i2l, 1), some (.ldc2_w 4294967295, 3), none, none, some (.land, 1), some (.lor, 1), some (.invokevirtual 2283, 3), none, none, some (.if_icmp .eq 158, 3), none, none, some (.iconst 0, 1), some (.ireturn, 1)], [some (.aload_n 1, 1), some (.aload_n 0, 1), some (.iload_n 3, 1), some (.iconst 1, 1), some (.iadd, 1), some (.iaload, 1), some (.aload_n 0, 1), some (.iload_n 3, 1), some (.iconst 2, 1), some (.iadd, 1), some (.iaload, 1), some (.invokevirtual 1322, 3), none, none, some (.aload_n 2, 1), some (.aload_n 0, 1)], [some (.iload_n 3, 1), some (.iconst 1, 1), some (.iadd, 1), some (.iaload, 1), some (.aload_n 0, 1), some (.iload_n 3, 1), some (.iconst 2, 1), some (.iadd, 1), some (.iaload, 1), some (.invokevirtual 2290, 3), none, none, some (.lcmp, 1), some (.ifCond .eq 124, 3), none, none], [some (.iconst 0, 1), some (.ireturn, 1), some (.aload_n 1, 1), some (.aload_n 0, 1), some (.iload_n 3, 1), some (.iconst 1, 1), some (.iadd, 1), some (.iaload, 1), some (.aload_n 0, 1), some (.iload_n 3, 1), some (.iconst 2, 1), some (.iadd, 1), some (.iaload, 1), some (.aload_n 0, 1), some (.iload_n 3, 1), some (.iconst 3, 1)], [some (.iadd, 1), some (.iaload, 1), some (.aload_n 0, 1), some (.iload_n 3, 1), some (.iconst 4, 1), some (.iadd, 1), some (.iaload, 1), some (.aload_n 0, 1), some (.iload_n 3, 1), some (.iconst 5, 1), some (.iadd, 1), some (.iaload, 1), some (.invokevirtual 1333, 3), none, none, some (.aload_n 2, 1)], [some (.aload_n 0, 1), some (.iload_n 3, 1), some (.iconst 1, 1), some (.iadd, 1), some (.iaload, 1), some (.aload_n 0, 1), some (.iload_n 3, 1), some (.iconst 2, 1), some (.iadd, 1), some (.iaload, 1), some (.aload_n 0, 1), some (.iload_n 3, 1), some (.iconst 3, 1), some (.iadd, 1), some (.iaload, 1), some (.aload_n 0, 1)], [some (.iload_n 3, 1), some (.iconst 4, 1), some (.iadd, 1), some (.iaload, 1), some (.aload_n 0, 1), some (.iload_n 3, 1), some (.iconst 5, 1), some (.iadd, 1), some (.iaload, 1), some (.invokevirtual 2301, 3), none, none, some (.if_icmp .eq 61, 3), none, none, some (.iconst 0, 1)], [some (.ireturn, 1), some (.aload_n 1, 1), some (.aload_n 0, 1), some (.iload_n 3, 1), some (.iconst 1, 1), some (.iadd, 1), some (.iaload, 1), some (.aload_n 0, 1), some (.iload_n 3, 1), some (.iconst 2, 1), some (.iadd, 1), some (.iaload, 1), some (.invokevirtual 1338, 3), none, none, some (.aload_n 2, 1)], [some (.aload_n 0, 1), some (.iload_n 3, 1), some (.iconst 1, 1), some (.iadd, 1), some (.iaload, 1), some (.aload_n 0, 1), some (.iload_n 3, 1), some (.iconst 2, 1), some (.iadd, 1), some (.iaload, 1), some (.invokevirtual 2306, 3), none, none, some (.if_icmp .eq 28, 3), none, none], [some (.iconst 0, 1), some (.ireturn, 1), some (.aload_n 1, 1), some (.aload_n 0, 1), some (.iload_n 3, 1), some (.iconst 1, 1), some (.iadd, 1), some (.iaload, 1), some (.invokevirtual 1345, 3), none, none, some (.aload_n 2, 1), some (.aload_n 0, 1), some (.iload_n 3, 1), some (.iconst 1, 1), some (.iadd, 1)], [some (.iaload, 1), some (.invokevirtual 2241, 3), none, none, some (.if_icmp .eq 5, 3), none, none, some (.iconst 0, 1), some (.ireturn, 1), some (.iinc 3 6, 3), none, none, some (.goto (-1178), 3), none, none, some (.iconst 1, 1)], [some (.ireturn, 1)]]
end
section
def s_cn (o : Nat) : String := match s_cls[o]? with
  | some x => x
  | none => ""
def s_fty : Nat → Nat → FieldType := fun k => match k with
  | 0 => tyX0
  | 1 => tyX1
  | 2 => tyX2
  | 3 => tyX3
  | 4 => tyX4
  | 5 => tyX5
  | 6 => tyX6
  | 7 => tyX7
  | 8 => tyX8
  | 9 => tyX9
  | 10 => tyX10
  | _ => tyX11
def s_ft : List (Nat × (Nat → FieldType)) := [(2, tyX0), (6, tyX1), (4, tyX2), (10, tyX3), (12, tyX4), (4, tyX5), (4, tyX6), (3, tyX7), (6, tyX8), (4, tyX9), (12, tyX10), (50, tyX11)]
/-- what the tables say of a method: its name, its bytes; its class, whether it makes, whether it is static, its arguments; the places of its words -/
abbrev sMT : Type := (MethodName × ByteArray) × ((Nat × (Bool × (Bool × Nat))) × (Nat × (Nat × (Nat × Nat))))
def s_e1 : sMeth × sMT := ((1, ((Option.none : Option Jvm.ClassFile.FieldType), (0, s_cd1))), ((⟨"OldestLaw$Cases", "<init>", "()V"⟩, prog_2_method_1_code), ((0, (true, (false, 0))), (203, (0, (202, 110))))))
def s_e2 : sMeth × sMT := ((1, ((Option.some Jvm.ClassFile.FieldType.int), (0, s_cd2))), ((⟨"OldestLaw$Cases", "placeOf", "(I)I"⟩, prog_2_method_2_code), ((0, (false, (true, 1))), (731, (0, (730, 110))))))
def s_e3 : sMeth × sMT := ((1, ((Option.some Jvm.ClassFile.FieldType.int), (0, s_cd3))), ((⟨"OldestLaw$Cases", "numberOf", "(I)I"⟩, prog_2_method_3_code), ((0, (false, (true, 1))), (828, (0, (827, 110))))))
def s_e4 : sMeth × sMT := ((2, ((Option.some Jvm.ClassFile.FieldType.int), (0, s_cd4))), ((⟨"OldestLaw$Cases", "digit", "(II)I"⟩, prog_2_method_4_code), ((0, (false, (true, 2))), (662, (0, (661, 110))))))
def s_e5 : sMeth × sMT := ((1, ((Option.none : Option Jvm.ClassFile.FieldType), (0, s_cd5))), ((⟨"OldestLaw$Cases", "clear", "()V"⟩, prog_2_method_5_code), ((0, (false, (false, 0))), (659, (658, (657, 110))))))
def s_e6 : sMeth × sMT := ((1, ((Option.none : Option Jvm.ClassFile.FieldType), (0, s_cd6))), ((⟨"OldestLaw$Cases", "fill", "()V"⟩, prog_2_method_6_code), ((0, (false, (false, 0))), (340, (339, (338, 110))))))
def s_e7 : sMeth × sMT := ((2, ((Option.none : Option Jvm.ClassFile.FieldType), (0, s_cd7))), ((⟨"OldestLaw$Cases", "add", "(I)V"⟩, prog_2_method_7_code), ((0, (false, (false, 1))), (691, (690, (689, 110))))))
def s_e8 : sMeth × sMT := ((2, ((Option.some Jvm.ClassFile.FieldType.boolean), (0, s_cd8))), ((⟨"OldestLaw$Cases", "has", "(I)Z"⟩, prog_2_method_8_code), ((0, (false, (false, 1))), (735, (734, (733, 110))))))
def s_e9 : sMeth × sMT := ((3, ((Option.none : Option Jvm.ClassFile.FieldType), (0, s_cd9))), ((⟨"OldestLaw$Cases", "takeBoth", "(LOldestLaw$Cases;LOldestLaw$Cases;)V"⟩, prog_2_method_9_code), ((0, (false, (false, 2))), (820, (819, (818, 110))))))
def s_e10 : sMeth × sMT := ((1, ((Option.some Jvm.ClassFile.FieldType.int), (0, s_cd10))), ((⟨"OldestLaw$Cases", "size", "()I"⟩, prog_2_method_10_code), ((0, (false, (false, 0))), (717, (716, (715, 110))))))
def s_e11 : sMeth × sMT := ((2, ((Option.some Jvm.ClassFile.FieldType.int), (0, s_cd11))), ((⟨"OldestLaw$Cases", "first", "()I"⟩, prog_2_method_11_code), ((0, (false, (false, 0))), (824, (823, (822, 110))))))
def s_e12 : sMeth × sMT := ((1, ((Option.none : Option Jvm.ClassFile.FieldType), (1, s_cd12))), ((⟨"OldestLaw$Changes", "<init>", "()V"⟩, prog_3_method_1_code), ((1, (true, (false, 0))), (304, (0, (303, 111))))))
def s_e13 : sMeth × sMT := ((5, ((Option.none : Option Jvm.ClassFile.FieldType), (1, s_cd13))), ((⟨"OldestLaw$Changes", "add", "(IIII)V"⟩, prog_3_method_2_code), ((1, (false, (false, 4))), (605, (604, (603, 111))))))
def s_e14 : sMeth × sMT := ((1, ((Option.none : Option Jvm.ClassFile.FieldType), (1, s_cd14))), ((⟨"OldestLaw$Changes", "dropFirst", "()V"⟩, prog_3_method_3_code), ((1, (false, (false, 0))), (609, (14, (608, 111))))))
def s_e15 : sMeth × sMT := ((1, ((Option.none : Option Jvm.ClassFile.FieldType), (1, s_cd15))), ((⟨"OldestLaw$Changes", "forget", "()V"⟩, prog_3_method_4_code), ((1, (false, (false, 0))), (986, (985, (984, 111))))))
def s_e16 : sMeth × sMT := ((1, ((Option.some Jvm.ClassFile.FieldType.int), (1, s_cd16))), ((⟨"OldestLaw$Changes", "latest", "()I"⟩, prog_3_method_5_code), ((1, (false, (false, 0))), (994, (993, (992, 111))))))
def s_e17 : sMeth × sMT := ((1, ((Option.some Jvm.ClassFile.FieldType.int), (1, s_cd17))), ((⟨"OldestLaw$Changes", "next", "()I"⟩, prog_3_method_6_code), ((1, (false, (false, 0))), (1018, (1017, (1016, 111))))))
def s_e18 : sMeth × sMT := ((1, ((Option.some Jvm.ClassFile.FieldType.int), (1, s_cd18))), ((⟨"OldestLaw$Changes", "stepBack", "()I"⟩, prog_3_method_7_code), ((1, (false, (false, 0))), (1010, (1009, (1008, 111))))))
def s_e19 : sMeth × sMT := ((1, ((Option.some Jvm.ClassFile.FieldType.int), (1, s_cd19))), ((⟨"OldestLaw$Changes", "stepOn", "()I"⟩, prog_3_method_8_code), ((1, (false, (false, 0))), (1026, (1025, (1024, 111))))))
def s_e20 : sMeth × sMT := ((2, ((Option.some Jvm.ClassFile.FieldType.int), (1, s_cd20))), ((⟨"OldestLaw$Changes", "number", "(I)I"⟩, prog_3_method_9_code), ((1, (false, (false, 1))), (998, (997, (996, 111))))))
def s_e21 : sMeth × sMT := ((2, ((Option.some Jvm.ClassFile.FieldType.int), (1, s_cd21))), ((⟨"OldestLaw$Changes", "what", "(I)I"⟩, prog_3_method_10_code), ((1, (false, (false, 1))), (1002, (1001, (1000, 111))))))
def s_e22 : sMeth × sMT := ((2, ((Option.some Jvm.ClassFile.FieldType.int), (1, s_cd22))), ((⟨"OldestLaw$Changes", "was", "(I)I"⟩, prog_3_method_11_code), ((1, (false, (false, 1))), (1006, (1005, (1004, 111))))))
def s_e23 : sMeth × sMT := ((2, ((Option.some Jvm.ClassFile.FieldType.int), (1, s_cd23))), ((⟨"OldestLaw$Changes", "became", "(I)I"⟩, prog_3_method_12_code), ((1, (false, (false, 1))), (1022, (1021, (1020, 111))))))
def s_e24 : sMeth × sMT := ((1, ((Option.none : Option Jvm.ClassFile.FieldType), (2, s_cd24))), ((⟨"OldestLaw$Clauses", "<init>", "()V"⟩, prog_4_method_1_code), ((2, (true, (false, 0))), (366, (0, (365, 113))))))
def s_e25 : sMeth × sMT := ((1, ((Option.some Jvm.ClassFile.FieldType.boolean), (2, s_cd25))), ((⟨"OldestLaw$Clauses", "isKind", "(I)Z"⟩, prog_4_method_2_code), ((2, (false, (true, 1))), (1033, (0, (1032, 113))))))
def s_e26 : sMeth × sMT := ((1, ((Option.some Jvm.ClassFile.FieldType.int), (2, s_cd26))), ((⟨"OldestLaw$Clauses", "above", "(I)I"⟩, prog_4_method_3_code), ((2, (false, (true, 1))), (1069, (0, (1068, 113))))))
def s_e27 : sMeth × sMT := ((4, ((Option.some Jvm.ClassFile.FieldType.boolean), (2, s_cd27))), ((⟨"OldestLaw$Clauses", "isUnder", "(II)Z"⟩, prog_4_method_4_code), ((2, (false, (true, 2))), (1163, (0, (1162, 113))))))
def s_e28 : sMeth × sMT := ((2, ((Option.some Jvm.ClassFile.FieldType.int), (2, s_cd28))), ((⟨"OldestLaw$Clauses", "add", "(I)I"⟩, prog_4_method_5_code), ((2, (false, (false, 1))), (1037, (1036, (1035, 113))))))
def s_e29 : sMeth × sMT := ((2, ((Option.some Jvm.ClassFile.FieldType.boolean), (2, s_cd29))), ((⟨"OldestLaw$Clauses", "knows", "(I)Z"⟩, prog_4_method_6_code), ((2, (false, (false, 1))), (1049, (1048, (1047, 113))))))
def s_e30 : sMeth × sMT := ((2, ((Option.some Jvm.ClassFile.FieldType.int), (2, s_cd30))), ((⟨"OldestLaw$Clauses", "kindOf", "(I)I"⟩, prog_4_method_7_code), ((2, (false, (false, 1))), (1057, (1056, (1055, 113))))))
def s_e31 : sMeth × sMT := ((2, ((Option.some Jvm.ClassFile.FieldType.int), (2, s_cd31))), ((⟨"OldestLaw$Clauses", "traced", "(I)I"⟩, prog_4_method_8_code), ((2, (false, (false, 1))), (1091, (1090, (1089, 113))))))
def s_e32 : sMeth × sMT := ((4, ((Option.some Jvm.ClassFile.FieldType.int), (2, s_cd32))), ((⟨"OldestLaw$Clauses", "perform", "(III)I"⟩, prog_4_method_9_code), ((2, (false, (false, 3))), (1045, (1044, (1043, 113))))))
def s_e33 : sMeth × sMT := ((2, ((Option.none : Option Jvm.ClassFile.FieldType), (2, s_cd33))), ((⟨"OldestLaw$Clauses", "note", "(I)V"⟩, prog_4_method_10_code), ((2, (false, (false, 1))), (1075, (33, (1074, 113))))))
def s_e34 : sMeth × sMT := ((3, ((Option.some Jvm.ClassFile.FieldType.int), (2, s_cd34))), ((⟨"OldestLaw$Clauses", "codeOf", "(II)I"⟩, prog_4_method_11_code), ((2, (false, (true, 2))), (1064, (0, (1063, 113))))))
def s_e35 : sMeth × sMT := ((5, ((Option.some Jvm.ClassFile.FieldType.int), (2, s_cd35))), ((⟨"OldestLaw$Clauses", "own", "(IIII)I"⟩, prog_4_method_12_code), ((2, (false, (false, 4))), (1053, (31, (1052, 113))))))
def s_e36 : sMeth × sMT := ((9, ((Option.some Jvm.ClassFile.FieldType.int), (2, s_cd36))), ((⟨"OldestLaw$Clauses", "from", "(IIIII)I"⟩, prog_4_method_13_code), ((2, (false, (false, 5))), (1061, (32, (1060, 113))))))
def s_e37 : sMeth × sMT := ((5, ((Option.some Jvm.ClassFile.FieldType.int), (2, s_cd37))), ((⟨"OldestLaw$Clauses", "atTop", "(IIII)I"⟩, prog_4_method_14_code), ((2, (false, (false, 4))), (1079, (34, (1078, 113))))))
def s_e38 : sMeth × sMT := ((5, ((Option.some Jvm.ClassFile.FieldType.int), (2, s_cd38))), ((⟨"OldestLaw$Clauses", "changed", "(IIII)I"⟩, prog_4_method_15_code), ((2, (false, (false, 4))), (1083, (35, (1082, 113))))))
def s_e39 : sMeth × sMT := ((2, ((Option.none : Option Jvm.ClassFile.FieldType), (3, s_cd39))), ((⟨"OldestLaw$Court", "<init>", "()V"⟩, prog_5_method_1_code), ((3, (true, (false, 0))), (169, (0, (168, 107))))))
def s_e40 : sMeth × sMT := ((2, ((Option.some Jvm.ClassFile.FieldType.boolean), (3, s_cd40))), ((⟨"OldestLaw$Court", "knows", "(I)Z"⟩, prog_5_method_2_code), ((3, (false, (false, 1))), (593, (592, (591, 107))))))
def s_e41 : sMeth × sMT := ((2, ((Option.some (Jvm.ClassFile.FieldType.object "OldestLaw$Law")), (3, s_cd41))), ((⟨"OldestLaw$Court", "at", "(I)LOldestLaw$Law;"⟩, prog_5_method_3_code), ((3, (false, (false, 1))), (547, (546, (545, 107))))))
def s_e42 : sMeth × sMT := ((1, ((Option.some Jvm.ClassFile.FieldType.int), (3, s_cd42))), ((⟨"OldestLaw$Court", "numbers", "()I"⟩, prog_5_method_4_code), ((3, (false, (false, 0))), (808, (807, (806, 107))))))
def s_e43 : sMeth × sMT := ((6, ((Option.some Jvm.ClassFile.FieldType.int), (3, s_cd43))), ((⟨"OldestLaw$Court", "admit", "(IIILOldestLaw$Text;)I"⟩, prog_5_method_5_code), ((3, (false, (false, 4))), (543, (542, (541, 107))))))
def s_e44 : sMeth × sMT := ((4, ((Option.some Jvm.ClassFile.FieldType.int), (3, s_cd44))), ((⟨"OldestLaw$Court", "valueOf", "(II)I"⟩, prog_5_method_6_code), ((3, (false, (false, 2))), (601, (600, (599, 107))))))
def s_e45 : sMeth × sMT := ((5, ((Option.none : Option Jvm.ClassFile.FieldType), (3, s_cd45))), ((⟨"OldestLaw$Court", "set", "(III)V"⟩, prog_5_method_7_code), ((3, (false, (false, 3))), (614, (613, (612, 107))))))
def s_e46 : sMeth × sMT := ((2, ((Option.some Jvm.ClassFile.FieldType.boolean), (3, s_cd46))), ((⟨"OldestLaw$Court", "isThere", "(I)Z"⟩, prog_5_method_8_code), ((3, (false, (false, 1))), (634, (633, (632, 107))))))
def s_e47 : sMeth × sMT := ((3, ((Option.some Jvm.ClassFile.FieldType.int), (3, s_cd47))), ((⟨"OldestLaw$Court", "there", "()I"⟩, prog_5_method_9_code), ((3, (false, (false, 0))), (707, (706, (705, 107))))))
def s_e48 : sMeth × sMT := ((2, ((Option.none : Option Jvm.ClassFile.FieldType), (3, s_cd48))), ((⟨"OldestLaw$Court", "hear", "()V"⟩, prog_5_method_10_code), ((3, (false, (false, 0))), (639, (638, (637, 107))))))
def s_e49 : sMeth × sMT := ((3, ((Option.none : Option Jvm.ClassFile.FieldType), (3, s_cd49))), ((⟨"OldestLaw$Court", "sortByAge", "()V"⟩, prog_5_method_11_code), ((3, (false, (false, 0))), (695, (18, (694, 107))))))
def s_e50 : sMeth × sMT := ((7, ((Option.none : Option Jvm.ClassFile.FieldType), (3, s_cd50))), ((⟨"OldestLaw$Court", "standWithout", "(I)V"⟩, prog_5_method_12_code), ((3, (false, (false, 1))), (703, (702, (701, 107))))))
def s_e51 : sMeth × sMT := ((2, ((Option.some Jvm.ClassFile.FieldType.boolean), (3, s_cd51))), ((⟨"OldestLaw$Court", "isStanding", "(I)Z"⟩, prog_5_method_13_code), ((3, (false, (false, 1))), (712, (711, (710, 107))))))
def s_e52 : sMeth × sMT := ((6, ((Option.some (Jvm.ClassFile.FieldType.object "OldestLaw$Law")), (3, s_cd52))), ((⟨"OldestLaw$Court", "holder", "(II)LOldestLaw$Law;"⟩, prog_5_method_14_code), ((3, (false, (false, 2))), (743, (742, (741, 107))))))
def s_e53 : sMeth × sMT := ((3, ((Option.some Jvm.ClassFile.FieldType.int), (3, s_cd53))), ((⟨"OldestLaw$Court", "verdictIn", "(II)I"⟩, prog_5_method_15_code), ((3, (false, (false, 2))), (795, (794, (793, 107))))))
def s_e54 : sMeth × sMT := ((1, ((Option.some Jvm.ClassFile.FieldType.int), (3, s_cd54))), ((⟨"OldestLaw$Court", "verdictOf", "(LOldestLaw$Law;)I"⟩, prog_5_method_16_code), ((3, (false, (true, 1))), (799, (0, (798, 107))))))
def s_e55 : sMeth × sMT := ((6, ((Option.some Jvm.ClassFile.FieldType.int), (3, s_cd55))), ((⟨"OldestLaw$Court", "beatenBy", "(LOldestLaw$Law;I)I"⟩, prog_5_method_17_code), ((3, (false, (false, 2))), (759, (758, (757, 107))))))
def s_e56 : sMeth × sMT := ((3, ((Option.some Jvm.ClassFile.FieldType.int), (3, s_cd56))), ((⟨"OldestLaw$Court", "firstWrong", "(LOldestLaw$Shelf;)I"⟩, prog_5_method_18_code), ((3, (false, (false, 1))), (771, (770, (769, 107))))))
def s_e57 : sMeth × sMT := ((2, ((Option.none : Option Jvm.ClassFile.FieldType), (3, s_cd57))), ((⟨"OldestLaw$Court", "rememberVerdicts", "()V"⟩, prog_5_method_19_code), ((3, (false, (false, 0))), (920, (919, (918, 107))))))
def s_e58 : sMeth × sMT := ((3, ((Option.none : Option Jvm.ClassFile.FieldType), (3, s_cd58))), ((⟨"OldestLaw$Court", "findChanged", "(LOldestLaw$Cases;)V"⟩, prog_5_method_20_code), ((3, (false, (false, 1))), (926, (925, (924, 107))))))
def s_e59 : sMeth × sMT := ((4, ((Option.some Jvm.ClassFile.FieldType.boolean), (3, s_cd59))), ((⟨"OldestLaw$Court", "comesBack", "(I)Z"⟩, prog_5_method_21_code), ((3, (false, (false, 1))), (957, (956, (955, 107))))))
def s_e60 : sMeth × sMT := ((2, ((Option.none : Option Jvm.ClassFile.FieldType), (4, s_cd60))), ((⟨"OldestLaw$Law", "<init>", "(I)V"⟩, prog_6_method_1_code), ((4, (true, (false, 1))), (195, (0, (194, 109))))))
def s_e61 : sMeth × sMT := ((2, ((Option.some Jvm.ClassFile.FieldType.boolean), (4, s_cd61))), ((⟨"OldestLaw$Law", "isOlderThan", "(LOldestLaw$Law;)Z"⟩, prog_6_method_2_code), ((4, (false, (false, 1))), (699, (698, (697, 109))))))
def s_e62 : sMeth × sMT := ((4, ((Option.some Jvm.ClassFile.FieldType.boolean), (4, s_cd62))), ((⟨"OldestLaw$Law", "goesAhead", "(LOldestLaw$Law;I)Z"⟩, prog_6_method_3_code), ((4, (false, (false, 2))), (749, (748, (747, 109))))))
def s_e63 : sMeth × sMT := ((1, ((Option.some Jvm.ClassFile.FieldType.int), (4, s_cd63))), ((⟨"OldestLaw$Law", "hardness", "()I"⟩, prog_6_method_4_code), ((4, (false, (false, 0))), (755, (19, (754, 109))))))
def s_e64 : sMeth × sMT := ((9, ((Option.none : Option Jvm.ClassFile.FieldType), (4, s_cd64))), ((⟨"OldestLaw$Law", "hear", "(LOldestLaw$Words;I[I)V"⟩, prog_6_method_5_code), ((4, (false, (false, 3))), (643, (642, (641, 109))))))
def s_e65 : sMeth × sMT := ((1, ((Option.none : Option Jvm.ClassFile.FieldType), (4, s_cd65))), ((⟨"OldestLaw$Law", "draw", "()V"⟩, prog_6_method_6_code), ((4, (false, (false, 0))), (965, (964, (963, 109))))))
def s_e66 : sMeth × sMT := ((1, ((Option.none : Option Jvm.ClassFile.FieldType), (4, s_cd66))), ((⟨"OldestLaw$Law", "restore", "()V"⟩, prog_6_method_7_code), ((4, (false, (false, 0))), (978, (977, (976, 109))))))
def s_e67 : sMeth × sMT := ((1, ((Option.none : Option Jvm.ClassFile.FieldType), (5, s_cd67))), ((⟨"OldestLaw$Reader", "<init>", "()V"⟩, prog_7_method_1_code), ((5, (true, (false, 0))), (132, (0, (131, 105))))))
def s_e68 : sMeth × sMT := ((3, ((Option.some Jvm.ClassFile.FieldType.int), (5, s_cd68))), ((⟨"OldestLaw$Reader", "read", "([II)I"⟩, prog_7_method_2_code), ((5, (false, (false, 2))), (463, (462, (461, 105))))))
def s_e69 : sMeth × sMT := ((2, ((Option.some Jvm.ClassFile.FieldType.boolean), (5, s_cd69))), ((⟨"OldestLaw$Reader", "comes", "(I)Z"⟩, prog_7_method_3_code), ((5, (false, (false, 1))), (530, (10, (529, 105))))))
def s_e70 : sMeth × sMT := ((1, ((Option.some Jvm.ClassFile.FieldType.int), (5, s_cd70))), ((⟨"OldestLaw$Reader", "letterHere", "()I"⟩, prog_7_method_4_code), ((5, (false, (false, 0))), (512, (8, (511, 105))))))
def s_e71 : sMeth × sMT := ((2, ((Option.some Jvm.ClassFile.FieldType.boolean), (5, s_cd71))), ((⟨"OldestLaw$Reader", "lines", "()Z"⟩, prog_7_method_5_code), ((5, (false, (false, 0))), (480, (0, (479, 105))))))
def s_e72 : sMeth × sMT := ((2, ((Option.some Jvm.ClassFile.FieldType.boolean), (5, s_cd72))), ((⟨"OldestLaw$Reader", "line", "()Z"⟩, prog_7_method_6_code), ((5, (false, (false, 0))), (484, (1, (483, 105))))))
def s_e73 : sMeth × sMT := ((4, ((Option.some Jvm.ClassFile.FieldType.boolean), (5, s_cd73))), ((⟨"OldestLaw$Reader", "either", "(I)Z"⟩, prog_7_method_7_code), ((5, (false, (false, 1))), (488, (2, (487, 105))))))
def s_e74 : sMeth × sMT := ((4, ((Option.some Jvm.ClassFile.FieldType.boolean), (5, s_cd74))), ((⟨"OldestLaw$Reader", "both", "(I)Z"⟩, prog_7_method_8_code), ((5, (false, (false, 1))), (492, (3, (491, 105))))))
def s_e75 : sMeth × sMT := ((4, ((Option.some Jvm.ClassFile.FieldType.boolean), (5, s_cd75))), ((⟨"OldestLaw$Reader", "compared", "(I)Z"⟩, prog_7_method_9_code), ((5, (false, (false, 1))), (496, (4, (495, 105))))))
def s_e76 : sMeth × sMT := ((5, ((Option.some Jvm.ClassFile.FieldType.boolean), (5, s_cd76))), ((⟨"OldestLaw$Reader", "sum", "(I)Z"⟩, prog_7_method_10_code), ((5, (false, (false, 1))), (500, (5, (499, 105))))))
def s_e77 : sMeth × sMT := ((5, ((Option.some Jvm.ClassFile.FieldType.boolean), (5, s_cd77))), ((⟨"OldestLaw$Reader", "product", "(I)Z"⟩, prog_7_method_11_code), ((5, (false, (false, 1))), (504, (6, (503, 105))))))
def s_e78 : sMeth × sMT := ((5, ((Option.some Jvm.ClassFile.FieldType.boolean), (5, s_cd78))), ((⟨"OldestLaw$Reader", "operand", "(I)Z"⟩, prog_7_method_12_code), ((5, (false, (false, 1))), (508, (7, (507, 105))))))
def s_e79 : sMeth × sMT := ((3, ((Option.none : Option Jvm.ClassFile.FieldType), (5, s_cd79))), ((⟨"OldestLaw$Reader", "number", "()V"⟩, prog_7_method_13_code), ((5, (false, (false, 0))), (526, (9, (525, 105))))))
def s_e80 : sMeth × sMT := ((1, ((Option.some Jvm.ClassFile.FieldType.boolean), (5, s_cd80))), ((⟨"OldestLaw$Reader", "isDigit", "(I)Z"⟩, prog_7_method_14_code), ((5, (false, (true, 1))), (522, (0, (521, 105))))))
def s_e81 : sMeth × sMT := ((1, ((Option.some Jvm.ClassFile.FieldType.int), (5, s_cd81))), ((⟨"OldestLaw$Reader", "nameOf", "(I)I"⟩, prog_7_method_15_code), ((5, (false, (true, 1))), (515, (0, (514, 105))))))
def s_e82 : sMeth × sMT := ((1, ((Option.none : Option Jvm.ClassFile.FieldType), (6, s_cd82))), ((⟨"OldestLaw$Shelf", "<init>", "()V"⟩, prog_8_method_1_code), ((6, (true, (false, 0))), (388, (0, (387, 114))))))
def s_e83 : sMeth × sMT := ((1, ((Option.some Jvm.ClassFile.FieldType.boolean), (6, s_cd83))), ((⟨"OldestLaw$Shelf", "isSort", "(I)Z"⟩, prog_8_method_2_code), ((6, (false, (true, 1))), (1111, (0, (1110, 114))))))
def s_e84 : sMeth × sMT := ((1, ((Option.some Jvm.ClassFile.FieldType.boolean), (6, s_cd84))), ((⟨"OldestLaw$Shelf", "isBare", "()Z"⟩, prog_8_method_3_code), ((6, (false, (false, 0))), (567, (566, (565, 114))))))
def s_e85 : sMeth × sMT := ((1, ((Option.some Jvm.ClassFile.FieldType.boolean), (6, s_cd85))), ((⟨"OldestLaw$Shelf", "isRow", "()Z"⟩, prog_8_method_4_code), ((6, (false, (false, 0))), (1127, (1126, (1125, 114))))))
def s_e86 : sMeth × sMT := ((1, ((Option.none : Option Jvm.ClassFile.FieldType), (6, s_cd86))), ((⟨"OldestLaw$Shelf", "bare", "()V"⟩, prog_8_method_5_code), ((6, (false, (false, 0))), (1100, (1099, (1098, 114))))))
def s_e87 : sMeth × sMT := ((2, ((Option.none : Option Jvm.ClassFile.FieldType), (6, s_cd87))), ((⟨"OldestLaw$Shelf", "takeBody", "(I)V"⟩, prog_8_method_6_code), ((6, (false, (false, 1))), (1104, (1103, (1102, 114))))))
def s_e88 : sMeth × sMT := ((4, ((Option.none : Option Jvm.ClassFile.FieldType), (6, s_cd88))), ((⟨"OldestLaw$Shelf", "takeRow", "(II)V"⟩, prog_8_method_7_code), ((6, (false, (false, 2))), (1115, (1114, (1113, 114))))))
def s_e89 : sMeth × sMT := ((3, ((Option.some Jvm.ClassFile.FieldType.boolean), (6, s_cd89))), ((⟨"OldestLaw$Shelf", "hasPlaces", "(II)Z"⟩, prog_8_method_8_code), ((6, (false, (false, 2))), (1132, (1131, (1130, 114))))))
def s_e90 : sMeth × sMT := ((2, ((Option.some Jvm.ClassFile.FieldType.long), (6, s_cd90))), ((⟨"OldestLaw$Shelf", "at", "(I)J"⟩, prog_8_method_9_code), ((6, (false, (false, 1))), (575, (574, (573, 114))))))
def s_e91 : sMeth × sMT := ((4, ((Option.none : Option Jvm.ClassFile.FieldType), (6, s_cd91))), ((⟨"OldestLaw$Shelf", "set", "(IJ)V"⟩, prog_8_method_10_code), ((6, (false, (false, 2))), (1136, (1135, (1134, 114))))))
def s_e92 : sMeth × sMT := ((3, ((Option.some Jvm.ClassFile.FieldType.long), (6, s_cd92))), ((⟨"OldestLaw$Shelf", "cut", "(J)J"⟩, prog_8_method_11_code), ((6, (false, (false, 1))), (1140, (37, (1139, 114))))))
def s_e93 : sMeth × sMT := ((5, ((Option.none : Option Jvm.ClassFile.FieldType), (6, s_cd93))), ((⟨"OldestLaw$Shelf", "copyFrom", "(LOldestLaw$Shelf;III)V"⟩, prog_8_method_12_code), ((6, (false, (false, 4))), (1153, (1152, (1151, 114))))))
def s_e94 : sMeth × sMT := ((1, ((Option.some Jvm.ClassFile.FieldType.int), (6, s_cd94))), ((⟨"OldestLaw$Shelf", "twos", "()I"⟩, prog_8_method_13_code), ((6, (false, (false, 0))), (775, (774, (773, 114))))))
def s_e95 : sMeth × sMT := ((2, ((Option.some Jvm.ClassFile.FieldType.boolean), (6, s_cd95))), ((⟨"OldestLaw$Shelf", "isTwo", "(I)Z"⟩, prog_8_method_14_code), ((6, (false, (false, 1))), (779, (778, (777, 114))))))
def s_e96 : sMeth × sMT := ((2, ((Option.some Jvm.ClassFile.FieldType.boolean), (6, s_cd96))), ((⟨"OldestLaw$Shelf", "isAllTwos", "()Z"⟩, prog_8_method_15_code), ((6, (false, (false, 0))), (841, (840, (839, 114))))))
def s_e97 : sMeth × sMT := ((2, ((Option.some Jvm.ClassFile.FieldType.int), (6, s_cd97))), ((⟨"OldestLaw$Shelf", "placeOfTwo", "(I)I"⟩, prog_8_method_16_code), ((6, (false, (false, 1))), (783, (782, (781, 114))))))
def s_e98 : sMeth × sMT := ((4, ((Option.some Jvm.ClassFile.FieldType.int), (6, s_cd98))), ((⟨"OldestLaw$Shelf", "verdictOfTwo", "(I)I"⟩, prog_8_method_17_code), ((6, (false, (false, 1))), (789, (788, (787, 114))))))
def s_e99 : sMeth × sMT := ((1, ((Option.none : Option Jvm.ClassFile.FieldType), (7, s_cd99))), ((⟨"OldestLaw$Text", "<init>", "()V"⟩, prog_9_method_1_code), ((7, (true, (false, 0))), (138, (0, (137, 106))))))
def s_e100 : sMeth × sMT := ((1, ((Option.none : Option Jvm.ClassFile.FieldType), (7, s_cd100))), ((⟨"OldestLaw$Text", "clear", "()V"⟩, prog_9_method_2_code), ((7, (false, (false, 0))), (476, (475, (474, 106))))))
def s_e101 : sMeth × sMT := ((1, ((Option.some Jvm.ClassFile.FieldType.int), (7, s_cd101))), ((⟨"OldestLaw$Text", "length", "()I"⟩, prog_9_method_3_code), ((7, (false, (false, 0))), (535, (534, (533, 106))))))
def s_e102 : sMeth × sMT := ((2, ((Option.none : Option Jvm.ClassFile.FieldType), (7, s_cd102))), ((⟨"OldestLaw$Text", "add", "(I)V"⟩, prog_9_method_4_code), ((7, (false, (false, 1))), (519, (518, (517, 106))))))
def s_e103 : sMeth × sMT := ((2, ((Option.none : Option Jvm.ClassFile.FieldType), (7, s_cd103))), ((⟨"OldestLaw$Text", "aim", "(I)V"⟩, prog_9_method_5_code), ((7, (false, (false, 1))), (539, (538, (537, 106))))))
def s_e104 : sMeth × sMT := ((2, ((Option.none : Option Jvm.ClassFile.FieldType), (7, s_cd104))), ((⟨"OldestLaw$Text", "copyFrom", "(LOldestLaw$Text;)V"⟩, prog_9_method_6_code), ((7, (false, (false, 1))), (551, (550, (549, 106))))))
def s_e105 : sMeth × sMT := ((6, ((Option.some Jvm.ClassFile.FieldType.int), (7, s_cd105))), ((⟨"OldestLaw$Text", "value", "([I)I"⟩, prog_9_method_7_code), ((7, (false, (false, 1))), (666, (665, (664, 106))))))
def s_e106 : sMeth × sMT := ((2, ((Option.some Jvm.ClassFile.FieldType.int), (7, s_cd106))), ((⟨"OldestLaw$Text", "valueAt", "(I)I"⟩, prog_9_method_8_code), ((7, (false, (false, 1))), (671, (16, (670, 106))))))
def s_e107 : sMeth × sMT := ((2, ((Option.some Jvm.ClassFile.FieldType.int), (7, s_cd107))), ((⟨"OldestLaw$Text", "named", "(I[I)I"⟩, prog_9_method_9_code), ((7, (false, (true, 2))), (687, (0, (686, 106))))))
def s_e108 : sMeth × sMT := ((5, ((Option.some Jvm.ClassFile.FieldType.int), (7, s_cd108))), ((⟨"OldestLaw$Text", "work", "(II)I"⟩, prog_9_method_10_code), ((7, (false, (false, 2))), (675, (17, (674, 106))))))
def s_e109 : sMeth × sMT := ((2, ((Option.some Jvm.ClassFile.FieldType.int), (7, s_cd109))), ((⟨"OldestLaw$Text", "alone", "(II)I"⟩, prog_9_method_11_code), ((7, (false, (true, 2))), (678, (0, (677, 106))))))
def s_e110 : sMeth × sMT := ((3, ((Option.some Jvm.ClassFile.FieldType.int), (7, s_cd110))), ((⟨"OldestLaw$Text", "joined", "(III)I"⟩, prog_9_method_12_code), ((7, (false, (true, 3))), (684, (0, (683, 106))))))
def s_e111 : sMeth × sMT := ((1, ((Option.some Jvm.ClassFile.FieldType.int), (7, s_cd111))), ((⟨"OldestLaw$Text", "bit", "(Z)I"⟩, prog_9_method_13_code), ((7, (false, (true, 1))), (681, (0, (680, 106))))))
def s_e112 : sMeth × sMT := ((2, ((Option.none : Option Jvm.ClassFile.FieldType), (8, s_cd112))), ((⟨"OldestLaw$Wordings", "<init>", "()V"⟩, prog_10_method_1_code), ((8, (true, (false, 0))), (330, (0, (329, 112))))))
def s_e113 : sMeth × sMT := ((9, ((Option.none : Option Jvm.ClassFile.FieldType), (8, s_cd113))), ((⟨"OldestLaw$Wordings", "prepare", "(LOldestLaw$Words;III)V"⟩, prog_10_method_2_code), ((8, (false, (false, 4))), (847, (846, (845, 112))))))
def s_e114 : sMeth × sMT := ((3, ((Option.some Jvm.ClassFile.FieldType.boolean), (8, s_cd114))), ((⟨"OldestLaw$Wordings", "compares", "(III)Z"⟩, prog_10_method_3_code), ((8, (false, (true, 3))), (857, (0, (856, 112))))))
def s_e115 : sMeth × sMT := ((2, ((Option.some (Jvm.ClassFile.FieldType.object "OldestLaw$Cases")), (8, s_cd115))), ((⟨"OldestLaw$Wordings", "metBy", "(I)LOldestLaw$Cases;"⟩, prog_10_method_4_code), ((8, (false, (false, 1))), (852, (22, (851, 112))))))
def s_e116 : sMeth × sMT := ((1, ((Option.none : Option Jvm.ClassFile.FieldType), (8, s_cd116))), ((⟨"OldestLaw$Wordings", "begin", "()V"⟩, prog_10_method_5_code), ((8, (false, (false, 0))), (869, (23, (868, 112))))))
def s_e117 : sMeth × sMT := ((1, ((Option.none : Option Jvm.ClassFile.FieldType), (8, s_cd117))), ((⟨"OldestLaw$Wordings", "goOn", "()V"⟩, prog_10_method_6_code), ((8, (false, (false, 0))), (895, (28, (894, 112))))))
def s_e118 : sMeth × sMT := ((1, ((Option.none : Option Jvm.ClassFile.FieldType), (8, s_cd118))), ((⟨"OldestLaw$Wordings", "word", "()V"⟩, prog_10_method_7_code), ((8, (false, (false, 0))), (873, (24, (872, 112))))))
def s_e119 : sMeth × sMT := ((1, ((Option.some Jvm.ClassFile.FieldType.int), (8, s_cd119))), ((⟨"OldestLaw$Wordings", "number", "()I"⟩, prog_10_method_8_code), ((8, (false, (false, 0))), (891, (27, (890, 112))))))
def s_e120 : sMeth × sMT := ((5, ((Option.some Jvm.ClassFile.FieldType.int), (8, s_cd120))), ((⟨"OldestLaw$Wordings", "firstFitting", "(LOldestLaw$Shelf;LOldestLaw$Court;)I"⟩, prog_10_method_9_code), ((8, (false, (false, 2))), (862, (861, (860, 112))))))
def s_e121 : sMeth × sMT := ((5, ((Option.some Jvm.ClassFile.FieldType.boolean), (8, s_cd121))), ((⟨"OldestLaw$Wordings", "fits", "(LOldestLaw$Shelf;LOldestLaw$Court;)Z"⟩, prog_10_method_10_code), ((8, (false, (false, 2))), (878, (25, (877, 112))))))
def s_e122 : sMeth × sMT := ((4, ((Option.some Jvm.ClassFile.FieldType.boolean), (8, s_cd122))), ((⟨"OldestLaw$Wordings", "wouldHold", "(ILOldestLaw$Law;I)Z"⟩, prog_10_method_11_code), ((8, (false, (false, 3))), (883, (26, (882, 112))))))
def s_e123 : sMeth × sMT := ((5, ((Option.some (Jvm.ClassFile.FieldType.object "OldestLaw$Law")), (8, s_cd123))), ((⟨"OldestLaw$Wordings", "barring", "(LOldestLaw$Shelf;LOldestLaw$Court;)LOldestLaw$Law;"⟩, prog_10_method_12_code), ((8, (false, (false, 2))), (903, (902, (901, 112))))))
def s_e124 : sMeth × sMT := ((6, ((Option.some Jvm.ClassFile.FieldType.boolean), (8, s_cd124))), ((⟨"OldestLaw$Wordings", "isBarred", "(LOldestLaw$Shelf;ILOldestLaw$Law;I)Z"⟩, prog_10_method_13_code), ((8, (false, (false, 4))), (908, (29, (907, 112))))))
def s_e125 : sMeth × sMT := ((5, ((Option.some Jvm.ClassFile.FieldType.boolean), (8, s_cd125))), ((⟨"OldestLaw$Wordings", "mightHold", "(ILOldestLaw$Law;I)Z"⟩, prog_10_method_14_code), ((8, (false, (false, 3))), (912, (30, (911, 112))))))
def s_e126 : sMeth × sMT := ((2, ((Option.none : Option Jvm.ClassFile.FieldType), (9, s_cd126))), ((⟨"OldestLaw$Words", "<init>", "()V"⟩, prog_11_method_1_code), ((9, (true, (false, 0))), (175, (0, (174, 108))))))
def s_e127 : sMeth × sMT := ((4, ((Option.none : Option Jvm.ClassFile.FieldType), (9, s_cd127))), ((⟨"OldestLaw$Words", "move", "(III)V"⟩, prog_11_method_2_code), ((9, (false, (false, 3))), (622, (621, (620, 108))))))
def s_e128 : sMeth × sMT := ((2, ((Option.some Jvm.ClassFile.FieldType.int), (9, s_cd128))), ((⟨"OldestLaw$Words", "to", "(I)I"⟩, prog_11_method_3_code), ((9, (false, (false, 1))), (651, (650, (649, 108))))))
def s_e129 : sMeth × sMT := ((2, ((Option.some Jvm.ClassFile.FieldType.int), (9, s_cd129))), ((⟨"OldestLaw$Words", "from", "(I)I"⟩, prog_11_method_4_code), ((9, (false, (false, 1))), (655, (654, (653, 108))))))
def s_e130 : sMeth × sMT := ((3, ((Option.some Jvm.ClassFile.FieldType.int), (9, s_cd130))), ((⟨"OldestLaw$Words", "meaning", "(II)I"⟩, prog_11_method_5_code), ((9, (false, (false, 2))), (647, (646, (645, 108))))))
def s_e131 : sMeth × sMT := ((1, ((Option.none : Option Jvm.ClassFile.FieldType), (9, s_cd131))), ((⟨"OldestLaw$Words", "draw", "()V"⟩, prog_11_method_6_code), ((9, (false, (false, 0))), (969, (968, (967, 108))))))
def s_e132 : sMeth × sMT := ((1, ((Option.none : Option Jvm.ClassFile.FieldType), (9, s_cd132))), ((⟨"OldestLaw$Words", "restore", "()V"⟩, prog_11_method_7_code), ((9, (false, (false, 0))), (982, (981, (980, 108))))))
def s_e133 : sMeth × sMT := ((2, ((Option.none : Option Jvm.ClassFile.FieldType), (10, s_cd133))), ((⟨"OldestLaw", "<init>", "()V"⟩, prog_1_method_1_code), ((10, (true, (false, 0))), (124, (0, (123, 104))))))
def s_e134 : sMeth × sMT := ((2, ((Option.some Jvm.ClassFile.FieldType.int), (10, s_cd134))), ((⟨"OldestLaw", "feed", "(I)I"⟩, prog_1_method_2_code), ((10, (false, (false, 1))), (449, (448, (447, 104))))))
def s_e135 : sMeth × sMT := ((4, ((Option.some Jvm.ClassFile.FieldType.int), (10, s_cd135))), ((⟨"OldestLaw", "law", "(II)I"⟩, prog_1_method_3_code), ((10, (false, (false, 2))), (453, (452, (451, 104))))))
def s_e136 : sMeth × sMT := ((6, ((Option.some Jvm.ClassFile.FieldType.int), (10, s_cd136))), ((⟨"OldestLaw", "laws", "(III)I"⟩, prog_1_method_4_code), ((10, (false, (false, 3))), (556, (555, (554, 104))))))
def s_e137 : sMeth × sMT := ((9, ((Option.some Jvm.ClassFile.FieldType.boolean), (10, s_cd137))), ((⟨"OldestLaw", "cameFromSix", "(LOldestLaw$Shelf;I)Z"⟩, prog_1_method_5_code), ((10, (false, (false, 2))), (571, (12, (570, 104))))))
def s_e138 : sMeth × sMT := ((5, ((Option.some Jvm.ClassFile.FieldType.int), (10, s_cd138))), ((⟨"OldestLaw", "mend", "(III)I"⟩, prog_1_method_6_code), ((10, (false, (false, 3))), (585, (584, (583, 104))))))
def s_e139 : sMeth × sMT := ((4, ((Option.some Jvm.ClassFile.FieldType.boolean), (10, s_cd139))), ((⟨"OldestLaw", "mayBecome", "(III)Z"⟩, prog_1_method_7_code), ((10, (false, (false, 3))), (589, (13, (588, 104))))))
def s_e140 : sMeth × sMT := ((4, ((Option.some Jvm.ClassFile.FieldType.int), (10, s_cd140))), ((⟨"OldestLaw", "moved", "(III)I"⟩, prog_1_method_8_code), ((10, (false, (false, 3))), (618, (617, (616, 104))))))
def s_e141 : sMeth × sMT := ((3, ((Option.some Jvm.ClassFile.FieldType.int), (10, s_cd141))), ((⟨"OldestLaw", "of", "(II)I"⟩, prog_1_method_9_code), ((10, (false, (false, 2))), (626, (625, (624, 104))))))
def s_e142 : sMeth × sMT := ((3, ((Option.some Jvm.ClassFile.FieldType.int), (10, s_cd142))), ((⟨"OldestLaw", "ofLaw", "(II)I"⟩, prog_1_method_10_code), ((10, (false, (false, 2))), (630, (15, (629, 104))))))
def s_e143 : sMeth × sMT := ((4, ((Option.some Jvm.ClassFile.FieldType.int), (10, s_cd143))), ((⟨"OldestLaw", "speaks", "(II)I"⟩, prog_1_method_11_code), ((10, (false, (false, 2))), (728, (727, (726, 104))))))
def s_e144 : sMeth × sMT := ((5, ((Option.some Jvm.ClassFile.FieldType.int), (10, s_cd144))), ((⟨"OldestLaw", "verdict", "(II)I"⟩, prog_1_method_12_code), ((10, (false, (false, 2))), (739, (738, (737, 104))))))
def s_e145 : sMeth × sMT := ((4, ((Option.some Jvm.ClassFile.FieldType.int), (10, s_cd145))), ((⟨"OldestLaw", "judge", "(I)I"⟩, prog_1_method_13_code), ((10, (false, (false, 1))), (763, (762, (761, 104))))))
def s_e146 : sMeth × sMT := ((4, ((Option.some Jvm.ClassFile.FieldType.int), (10, s_cd146))), ((⟨"OldestLaw", "never", "()I"⟩, prog_1_method_14_code), ((10, (false, (false, 0))), (804, (803, (802, 104))))))
def s_e147 : sMeth × sMT := ((7, ((Option.some Jvm.ClassFile.FieldType.int), (10, s_cd147))), ((⟨"OldestLaw", "clash", "(II)I"⟩, prog_1_method_15_code), ((10, (false, (false, 2))), (812, (811, (810, 104))))))
def s_e148 : sMeth × sMT := ((6, ((Option.some Jvm.ClassFile.FieldType.int), (10, s_cd148))), ((⟨"OldestLaw", "write", "(III)I"⟩, prog_1_method_16_code), ((10, (false, (false, 3))), (833, (832, (831, 104))))))
def s_e149 : sMeth × sMT := ((6, ((Option.some Jvm.ClassFile.FieldType.int), (10, s_cd149))), ((⟨"OldestLaw", "bars", "(III)I"⟩, prog_1_method_17_code), ((10, (false, (false, 3))), (899, (898, (897, 104))))))
def s_e150 : sMeth × sMT := ((6, ((Option.some Jvm.ClassFile.FieldType.int), (10, s_cd150))), ((⟨"OldestLaw", "meant", "(II)I"⟩, prog_1_method_18_code), ((10, (false, (false, 2))), (916, (915, (914, 104))))))
def s_e151 : sMeth × sMT := ((9, ((Option.some Jvm.ClassFile.FieldType.int), (10, s_cd151))), ((⟨"OldestLaw", "falseOnes", "(I)I"⟩, prog_1_method_19_code), ((10, (false, (false, 1))), (932, (931, (930, 104))))))
def s_e152 : sMeth × sMT := ((6, ((Option.some Jvm.ClassFile.FieldType.int), (10, s_cd152))), ((⟨"OldestLaw", "under", "(II)I"⟩, prog_1_method_20_code), ((10, (false, (false, 2))), (943, (942, (941, 104))))))
def s_e153 : sMeth × sMT := ((4, ((Option.some Jvm.ClassFile.FieldType.int), (10, s_cd153))), ((⟨"OldestLaw", "unlike", "(II)I"⟩, prog_1_method_21_code), ((10, (false, (false, 2))), (947, (946, (945, 104))))))
def s_e154 : sMeth × sMT := ((3, ((Option.some Jvm.ClassFile.FieldType.int), (10, s_cd154))), ((⟨"OldestLaw", "rings", "()I"⟩, prog_1_method_22_code), ((10, (false, (false, 0))), (953, (952, (951, 104))))))
def s_e155 : sMeth × sMT := ((2, ((Option.some Jvm.ClassFile.FieldType.int), (10, s_cd155))), ((⟨"OldestLaw", "image", "()I"⟩, prog_1_method_23_code), ((10, (false, (false, 0))), (961, (960, (959, 104))))))
def s_e156 : sMeth × sMT := ((2, ((Option.some Jvm.ClassFile.FieldType.int), (10, s_cd156))), ((⟨"OldestLaw", "back", "()I"⟩, prog_1_method_24_code), ((10, (false, (false, 0))), (974, (973, (972, 104))))))
def s_e157 : sMeth × sMT := ((2, ((Option.some Jvm.ClassFile.FieldType.int), (10, s_cd157))), ((⟨"OldestLaw", "undo", "()I"⟩, prog_1_method_25_code), ((10, (false, (false, 0))), (990, (989, (988, 104))))))
def s_e158 : sMeth × sMT := ((2, ((Option.some Jvm.ClassFile.FieldType.int), (10, s_cd158))), ((⟨"OldestLaw", "redo", "()I"⟩, prog_1_method_26_code), ((10, (false, (false, 0))), (1014, (1013, (1012, 104))))))
def s_e159 : sMeth × sMT := ((3, ((Option.some Jvm.ClassFile.FieldType.int), (10, s_cd159))), ((⟨"OldestLaw", "body", "(I)I"⟩, prog_1_method_27_code), ((10, (false, (false, 1))), (1030, (1029, (1028, 104))))))
def s_e160 : sMeth × sMT := ((4, ((Option.some Jvm.ClassFile.FieldType.int), (10, s_cd160))), ((⟨"OldestLaw", "act", "(III)I"⟩, prog_1_method_28_code), ((10, (false, (false, 3))), (1041, (1040, (1039, 104))))))
def s_e161 : sMeth × sMT := ((2, ((Option.some Jvm.ClassFile.FieldType.int), (10, s_cd161))), ((⟨"OldestLaw", "trace", "(I)I"⟩, prog_1_method_29_code), ((10, (false, (false, 1))), (1087, (1086, (1085, 104))))))
def s_e162 : sMeth × sMT := ((3, ((Option.some Jvm.ClassFile.FieldType.int), (10, s_cd162))), ((⟨"OldestLaw", "keep", "(II)I"⟩, prog_1_method_30_code), ((10, (false, (false, 2))), (1095, (1094, (1093, 104))))))
def s_e163 : sMeth × sMT := ((4, ((Option.some Jvm.ClassFile.FieldType.int), (10, s_cd163))), ((⟨"OldestLaw", "row", "(III)I"⟩, prog_1_method_31_code), ((10, (false, (false, 3))), (1108, (1107, (1106, 104))))))
def s_e164 : sMeth × sMT := ((6, ((Option.some Jvm.ClassFile.FieldType.int), (10, s_cd164))), ((⟨"OldestLaw", "put", "(IIJ)I"⟩, prog_1_method_32_code), ((10, (false, (false, 3))), (1119, (1118, (1117, 104))))))
def s_e165 : sMeth × sMT := ((3, ((Option.some Jvm.ClassFile.FieldType.long), (10, s_cd165))), ((⟨"OldestLaw", "element", "(II)J"⟩, prog_1_method_33_code), ((10, (false, (false, 2))), (1144, (1143, (1142, 104))))))
def s_e166 : sMeth × sMT := ((8, ((Option.some Jvm.ClassFile.FieldType.int), (10, s_cd166))), ((⟨"OldestLaw", "shift", "(IIIII)I"⟩, prog_1_method_34_code), ((10, (false, (false, 5))), (1149, (1148, (1147, 104))))))
def s_e167 : sMeth × sMT := ((5, ((Option.some Jvm.ClassFile.FieldType.int), (10, s_cd167))), ((⟨"OldestLaw", "taken", "(II)I"⟩, prog_1_method_35_code), ((10, (false, (false, 2))), (1159, (1158, (1157, 104))))))
def s_e168 : sMeth × sMT := ((2, ((Option.some Jvm.ClassFile.FieldType.int), (10, s_cd168))), ((⟨"OldestLaw", "count", "(I)I"⟩, prog_1_method_36_code), ((10, (false, (false, 1))), (1167, (1166, (1165, 104))))))
def s_e169 : sMeth × sMT := ((1, ((Option.some Jvm.ClassFile.FieldType.boolean), (10, s_cd169))), ((⟨"OldestLaw", "isDate", "(I)Z"⟩, prog_1_method_37_code), ((10, (false, (true, 1))), (456, (0, (455, 104))))))
def s_e170 : sMeth × sMT := ((1, ((Option.some Jvm.ClassFile.FieldType.boolean), (10, s_cd170))), ((⟨"OldestLaw", "isSaying", "(I)Z"⟩, prog_1_method_38_code), ((10, (false, (true, 1))), (459, (0, (458, 104))))))
def s_e171 : sMeth × sMT := ((1, ((Option.some Jvm.ClassFile.FieldType.boolean), (10, s_cd171))), ((⟨"OldestLaw", "isStruck", "(I)Z"⟩, prog_1_method_39_code), ((10, (false, (true, 1))), (578, (0, (577, 104))))))
def s_e172 : sMeth × sMT := ((1, ((Option.some Jvm.ClassFile.FieldType.boolean), (10, s_cd172))), ((⟨"OldestLaw", "isWord", "(I)Z"⟩, prog_1_method_40_code), ((10, (false, (true, 1))), (581, (0, (580, 104))))))
def s_e173 : sMeth × sMT := ((1, ((Option.some Jvm.ClassFile.FieldType.boolean), (10, s_cd173))), ((⟨"OldestLaw", "isRule", "(I)Z"⟩, prog_1_method_41_code), ((10, (false, (true, 1))), (596, (0, (595, 104))))))
def s_e174 : sMeth × sMT := ((1, ((Option.some Jvm.ClassFile.FieldType.boolean), (10, s_cd174))), ((⟨"OldestLaw", "isEither", "(I)Z"⟩, prog_1_method_42_code), ((10, (false, (true, 1))), (815, (0, (814, 104))))))
def s_e175 : sMeth × sMT := ((1, ((Option.some Jvm.ClassFile.FieldType.boolean), (10, s_cd175))), ((⟨"OldestLaw", "isShelf", "(I)Z"⟩, prog_1_method_43_code), ((10, (false, (true, 1))), (559, (0, (558, 104))))))
def s_e176 : sMeth × sMT := ((2, ((Option.some (Jvm.ClassFile.FieldType.object "OldestLaw$Shelf")), (10, s_cd176))), ((⟨"OldestLaw", "shelfAt", "(I)LOldestLaw$Shelf;"⟩, prog_1_method_44_code), ((10, (false, (false, 1))), (563, (11, (562, 104))))))
def s_e177 : sMeth × sMT := ((3, ((Option.some Jvm.ClassFile.FieldType.int), (10, s_cd177))), ((⟨"OldestLaw", "refusalOfTold", "(I)I"⟩, prog_1_method_45_code), ((10, (false, (false, 1))), (767, (20, (766, 104))))))
def s_e178 : sMeth × sMT := ((4, ((Option.some Jvm.ClassFile.FieldType.int), (10, s_cd178))), ((⟨"OldestLaw", "refusalOfNew", "(III)I"⟩, prog_1_method_46_code), ((10, (false, (false, 3))), (837, (21, (836, 104))))))
def s_e179 : sMeth × sMT := ((4, ((Option.some Jvm.ClassFile.FieldType.int), (10, s_cd179))), ((⟨"OldestLaw", "refusalOfElement", "(II)I"⟩, prog_1_method_47_code), ((10, (false, (false, 2))), (1123, (36, (1122, 104))))))
def s_e180 : sMeth × sMT := ((1, ((Option.none : Option Jvm.ClassFile.FieldType), (11, s_cd180))), ((⟨"OldestLawModel", "<init>", "()V"⟩, prog_13_method_1_code), ((11, (true, (false, 0))), (1173, (0, (1172, 115))))))
def s_e181 : sMeth × sMT := ((3, ((Option.some Jvm.ClassFile.FieldType.boolean), (11, s_cd181))), ((⟨"OldestLawModel", "in", "(III)Z"⟩, prog_13_method_3_code), ((11, (false, (true, 3))), (1334, (0, (1333, 115))))))
def s_e182 : sMeth × sMT := ((3, ((Option.some Jvm.ClassFile.FieldType.int), (11, s_cd182))), ((⟨"OldestLawModel", "bitsOf", "(I)I"⟩, prog_13_method_4_code), ((11, (false, (true, 1))), (1615, (0, (1614, 115))))))
def s_e183 : sMeth × sMT := ((2, ((Option.some Jvm.ClassFile.FieldType.int), (11, s_cd183))), ((⟨"OldestLawModel", "feed", "(I)I"⟩, prog_13_method_5_code), ((11, (false, (false, 1))), (1331, (1330, (1329, 115))))))
def s_e184 : sMeth × sMT := ((1, ((Option.some Jvm.ClassFile.FieldType.int), (11, s_cd184))), ((⟨"OldestLawModel", "look", "()I"⟩, prog_13_method_6_code), ((11, (false, (false, 0))), (1374, (46, (1373, 115))))))
def s_e185 : sMeth × sMT := ((1, ((Option.none : Option Jvm.ClassFile.FieldType), (11, s_cd185))), ((⟨"OldestLawModel", "faulty", "()V"⟩, prog_13_method_7_code), ((11, (false, (false, 0))), (1389, (49, (1388, 115))))))
def s_e186 : sMeth × sMT := ((3, ((Option.none : Option Jvm.ClassFile.FieldType), (11, s_cd186))), ((⟨"OldestLawModel", "addStep", "(II)V"⟩, prog_13_method_8_code), ((11, (false, (false, 2))), (1381, (47, (1380, 115))))))
def s_e187 : sMeth × sMT := ((1, ((Option.some Jvm.ClassFile.FieldType.int), (11, s_cd187))), ((⟨"OldestLawModel", "nameOf", "(I)I"⟩, prog_13_method_9_code), ((11, (false, (true, 1))), (1377, (0, (1376, 115))))))
def s_e188 : sMeth × sMT := ((1, ((Option.some Jvm.ClassFile.FieldType.boolean), (11, s_cd188))), ((⟨"OldestLawModel", "opens", "()Z"⟩, prog_13_method_10_code), ((11, (false, (false, 0))), (1385, (48, (1384, 115))))))
def s_e189 : sMeth × sMT := ((3, ((Option.none : Option Jvm.ClassFile.FieldType), (11, s_cd189))), ((⟨"OldestLawModel", "figure", "()V"⟩, prog_13_method_11_code), ((11, (false, (false, 0))), (1393, (50, (1392, 115))))))
def s_e190 : sMeth × sMT := ((2, ((Option.none : Option Jvm.ClassFile.FieldType), (11, s_cd190))), ((⟨"OldestLawModel", "operand", "()V"⟩, prog_13_method_12_code), ((11, (false, (false, 0))), (1370, (45, (1369, 115))))))
def s_e191 : sMeth × sMT := ((2, ((Option.none : Option Jvm.ClassFile.FieldType), (11, s_cd191))), ((⟨"OldestLawModel", "product", "()V"⟩, prog_13_method_13_code), ((11, (false, (false, 0))), (1366, (44, (1365, 115))))))
def s_e192 : sMeth × sMT := ((2, ((Option.none : Option Jvm.ClassFile.FieldType), (11, s_cd192))), ((⟨"OldestLawModel", "sum", "()V"⟩, prog_13_method_14_code), ((11, (false, (false, 0))), (1362, (43, (1361, 115))))))
def s_e193 : sMeth × sMT := ((2, ((Option.none : Option Jvm.ClassFile.FieldType), (11, s_cd193))), ((⟨"OldestLawModel", "compared", "()V"⟩, prog_13_method_15_code), ((11, (false, (false, 0))), (1358, (42, (1357, 115))))))
def s_e194 : sMeth × sMT := ((1, ((Option.none : Option Jvm.ClassFile.FieldType), (11, s_cd194))), ((⟨"OldestLawModel", "both", "()V"⟩, prog_13_method_16_code), ((11, (false, (false, 0))), (1354, (41, (1353, 115))))))
def s_e195 : sMeth × sMT := ((1, ((Option.none : Option Jvm.ClassFile.FieldType), (11, s_cd195))), ((⟨"OldestLawModel", "either", "()V"⟩, prog_13_method_17_code), ((11, (false, (false, 0))), (1350, (40, (1349, 115))))))
def s_e196 : sMeth × sMT := ((2, ((Option.none : Option Jvm.ClassFile.FieldType), (11, s_cd196))), ((⟨"OldestLawModel", "line", "()V"⟩, prog_13_method_18_code), ((11, (false, (false, 0))), (1346, (39, (1345, 115))))))
def s_e197 : sMeth × sMT := ((3, ((Option.some Jvm.ClassFile.FieldType.int), (11, s_cd197))), ((⟨"OldestLawModel", "readText", "(I)I"⟩, prog_13_method_19_code), ((11, (false, (false, 1))), (1342, (38, (1341, 115))))))
def s_e198 : sMeth × sMT := ((3, ((Option.some Jvm.ClassFile.FieldType.int), (11, s_cd198))), ((⟨"OldestLawModel", "twoOf", "(III)I"⟩, prog_13_method_20_code), ((11, (false, (true, 3))), (1480, (0, (1479, 115))))))
def s_e199 : sMeth × sMT := ((7, ((Option.some Jvm.ClassFile.FieldType.int), (11, s_cd199))), ((⟨"OldestLawModel", "worked", "(III)I"⟩, prog_13_method_21_code), ((11, (false, (false, 3))), (1477, (63, (1476, 115))))))
def s_e200 : sMeth × sMT := ((4, ((Option.some Jvm.ClassFile.FieldType.int), (11, s_cd200))), ((⟨"OldestLawModel", "gives", "(I)I"⟩, prog_13_method_22_code), ((11, (false, (false, 1))), (1473, (62, (1472, 115))))))
def s_e201 : sMeth × sMT := ((2, ((Option.some Jvm.ClassFile.FieldType.boolean), (11, s_cd201))), ((⟨"OldestLawModel", "isLaw", "(I)Z"⟩, prog_13_method_23_code), ((11, (false, (false, 1))), (1433, (55, (1432, 115))))))
def s_e202 : sMeth × sMT := ((2, ((Option.some Jvm.ClassFile.FieldType.boolean), (11, s_cd202))), ((⟨"OldestLawModel", "isThere", "(I)Z"⟩, prog_13_method_24_code), ((11, (false, (false, 1))), (1500, (68, (1499, 115))))))
def s_e203 : sMeth × sMT := ((4, ((Option.some Jvm.ClassFile.FieldType.int), (11, s_cd203))), ((⟨"OldestLawModel", "addLaw", "(III)I"⟩, prog_13_method_25_code), ((11, (false, (false, 3))), (1397, (51, (1396, 115))))))
def s_e204 : sMeth × sMT := ((4, ((Option.some Jvm.ClassFile.FieldType.int), (11, s_cd204))), ((⟨"OldestLawModel", "law", "(II)I"⟩, prog_13_method_26_code), ((11, (false, (false, 2))), (1338, (1337, (1336, 115))))))
def s_e205 : sMeth × sMT := ((6, ((Option.none : Option Jvm.ClassFile.FieldType), (11, s_cd205))), ((⟨"OldestLawModel", "writeText", "(III)V"⟩, prog_13_method_27_code), ((11, (false, (false, 3))), (1413, (53, (1412, 115))))))
def s_e206 : sMeth × sMT := ((2, ((Option.some Jvm.ClassFile.FieldType.boolean), (11, s_cd206))), ((⟨"OldestLawModel", "isLawRow", "(I)Z"⟩, prog_13_method_28_code), ((11, (false, (false, 1))), (1409, (52, (1408, 115))))))
def s_e207 : sMeth × sMT := ((8, ((Option.some Jvm.ClassFile.FieldType.int), (11, s_cd207))), ((⟨"OldestLawModel", "laws", "(III)I"⟩, prog_13_method_29_code), ((11, (false, (false, 3))), (1401, (1400, (1399, 115))))))
def s_e208 : sMeth × sMT := ((3, ((Option.some Jvm.ClassFile.FieldType.int), (11, s_cd208))), ((⟨"OldestLawModel", "valueAt", "(II)I"⟩, prog_13_method_30_code), ((11, (false, (false, 2))), (1441, (57, (1440, 115))))))
def s_e209 : sMeth × sMT := ((4, ((Option.none : Option Jvm.ClassFile.FieldType), (11, s_cd209))), ((⟨"OldestLawModel", "lays", "(III)V"⟩, prog_13_method_31_code), ((11, (false, (false, 3))), (1421, (54, (1420, 115))))))
def s_e210 : sMeth × sMT := ((6, ((Option.some Jvm.ClassFile.FieldType.int), (11, s_cd210))), ((⟨"OldestLawModel", "changes", "(III)I"⟩, prog_13_method_32_code), ((11, (false, (false, 3))), (1437, (56, (1436, 115))))))
def s_e211 : sMeth × sMT := ((1, ((Option.some Jvm.ClassFile.FieldType.int), (11, s_cd211))), ((⟨"OldestLawModel", "undo", "()I"⟩, prog_13_method_33_code), ((11, (false, (false, 0))), (1417, (1416, (1415, 115))))))
def s_e212 : sMeth × sMT := ((1, ((Option.some Jvm.ClassFile.FieldType.int), (11, s_cd212))), ((⟨"OldestLawModel", "redo", "()I"⟩, prog_13_method_34_code), ((11, (false, (false, 0))), (1425, (1424, (1423, 115))))))
def s_e213 : sMeth × sMT := ((4, ((Option.some Jvm.ClassFile.FieldType.int), (11, s_cd213))), ((⟨"OldestLawModel", "mend", "(III)I"⟩, prog_13_method_35_code), ((11, (false, (false, 3))), (1429, (1428, (1427, 115))))))
def s_e214 : sMeth × sMT := ((4, ((Option.some Jvm.ClassFile.FieldType.int), (11, s_cd214))), ((⟨"OldestLawModel", "moved", "(III)I"⟩, prog_13_method_36_code), ((11, (false, (false, 3))), (1446, (1445, (1444, 115))))))
def s_e215 : sMeth × sMT := ((2, ((Option.some Jvm.ClassFile.FieldType.int), (11, s_cd215))), ((⟨"OldestLawModel", "meaning", "(I)I"⟩, prog_13_method_37_code), ((11, (false, (false, 1))), (1454, (58, (1453, 115))))))
def s_e216 : sMeth × sMT := ((2, ((Option.some Jvm.ClassFile.FieldType.int), (11, s_cd216))), ((⟨"OldestLawModel", "order", "(I)I"⟩, prog_13_method_38_code), ((11, (false, (false, 1))), (1492, (66, (1491, 115))))))
def s_e217 : sMeth × sMT := ((3, ((Option.some Jvm.ClassFile.FieldType.boolean), (11, s_cd217))), ((⟨"OldestLawModel", "isOlder", "(II)Z"⟩, prog_13_method_39_code), ((11, (false, (false, 2))), (1488, (65, (1487, 115))))))
def s_e218 : sMeth × sMT := ((2, ((Option.some Jvm.ClassFile.FieldType.boolean), (11, s_cd218))), ((⟨"OldestLawModel", "isIn", "(I)Z"⟩, prog_13_method_40_code), ((11, (false, (false, 1))), (1496, (67, (1495, 115))))))
def s_e219 : sMeth × sMT := ((8, ((Option.none : Option Jvm.ClassFile.FieldType), (11, s_cd219))), ((⟨"OldestLawModel", "findStands", "(II)V"⟩, prog_13_method_41_code), ((11, (false, (false, 2))), (1484, (64, (1483, 115))))))
def s_e220 : sMeth × sMT := ((2, ((Option.some Jvm.ClassFile.FieldType.int), (11, s_cd220))), ((⟨"OldestLawModel", "wordIn", "(II)I"⟩, prog_13_method_42_code), ((11, (false, (true, 2))), (1469, (0, (1468, 115))))))
def s_e221 : sMeth × sMT := ((4, ((Option.some Jvm.ClassFile.FieldType.boolean), (11, s_cd221))), ((⟨"OldestLawModel", "doesSpeak", "(II)Z"⟩, prog_13_method_43_code), ((11, (false, (false, 2))), (1466, (61, (1465, 115))))))
def s_e222 : sMeth × sMT := ((3, ((Option.none : Option Jvm.ClassFile.FieldType), (11, s_cd222))), ((⟨"OldestLawModel", "findSpeaks", "()V"⟩, prog_13_method_44_code), ((11, (false, (false, 0))), (1462, (60, (1461, 115))))))
def s_e223 : sMeth × sMT := ((1, ((Option.none : Option Jvm.ClassFile.FieldType), (11, s_cd223))), ((⟨"OldestLawModel", "findAll", "()V"⟩, prog_13_method_45_code), ((11, (false, (false, 0))), (1458, (59, (1457, 115))))))
def s_e224 : sMeth × sMT := ((1, ((Option.some Jvm.ClassFile.FieldType.int), (11, s_cd224))), ((⟨"OldestLawModel", "caseOf", "(I)I"⟩, prog_13_method_46_code), ((11, (false, (true, 1))), (1510, (0, (1509, 115))))))
def s_e225 : sMeth × sMT := ((1, ((Option.some Jvm.ClassFile.FieldType.int), (11, s_cd225))), ((⟨"OldestLawModel", "numberOf", "(I)I"⟩, prog_13_method_47_code), ((11, (false, (true, 1))), (1564, (0, (1563, 115))))))
def s_e226 : sMeth × sMT := ((1, ((Option.some Jvm.ClassFile.FieldType.boolean), (11, s_cd226))), ((⟨"OldestLawModel", "isCase", "(I)Z"⟩, prog_13_method_48_code), ((11, (false, (true, 1))), (1507, (0, (1506, 115))))))
def s_e227 : sMeth × sMT := ((3, ((Option.some Jvm.ClassFile.FieldType.int), (11, s_cd227))), ((⟨"OldestLawModel", "standing", "()I"⟩, prog_13_method_49_code), ((11, (false, (false, 0))), (1722, (101, (1721, 115))))))
def s_e228 : sMeth × sMT := ((3, ((Option.some Jvm.ClassFile.FieldType.int), (11, s_cd228))), ((⟨"OldestLawModel", "thereMany", "()I"⟩, prog_13_method_50_code), ((11, (false, (false, 0))), (1714, (99, (1713, 115))))))
def s_e229 : sMeth × sMT := ((3, ((Option.some Jvm.ClassFile.FieldType.int), (11, s_cd229))), ((⟨"OldestLawModel", "of", "(II)I"⟩, prog_13_method_51_code), ((11, (false, (false, 2))), (1450, (1449, (1448, 115))))))
def s_e230 : sMeth × sMT := ((1, ((Option.some Jvm.ClassFile.FieldType.int), (11, s_cd230))), ((⟨"OldestLawModel", "kindness", "(I)I"⟩, prog_13_method_52_code), ((11, (false, (true, 1))), (1525, (0, (1524, 115))))))
def s_e231 : sMeth × sMT := ((6, ((Option.some Jvm.ClassFile.FieldType.boolean), (11, s_cd231))), ((⟨"OldestLawModel", "isAhead", "(III)Z"⟩, prog_13_method_53_code), ((11, (false, (false, 3))), (1522, (70, (1521, 115))))))
def s_e232 : sMeth × sMT := ((5, ((Option.some Jvm.ClassFile.FieldType.int), (11, s_cd232))), ((⟨"OldestLawModel", "holder", "(II)I"⟩, prog_13_method_54_code), ((11, (false, (false, 2))), (1518, (69, (1517, 115))))))
def s_e233 : sMeth × sMT := ((4, ((Option.some Jvm.ClassFile.FieldType.int), (11, s_cd233))), ((⟨"OldestLawModel", "verdictIn", "(II)I"⟩, prog_13_method_55_code), ((11, (false, (false, 2))), (1553, (76, (1552, 115))))))
def s_e234 : sMeth × sMT := ((3, ((Option.some Jvm.ClassFile.FieldType.int), (11, s_cd234))), ((⟨"OldestLawModel", "speaks", "(II)I"⟩, prog_13_method_56_code), ((11, (false, (false, 2))), (1504, (1503, (1502, 115))))))
def s_e235 : sMeth × sMT := ((7, ((Option.some Jvm.ClassFile.FieldType.int), (11, s_cd235))), ((⟨"OldestLawModel", "verdict", "(II)I"⟩, prog_13_method_57_code), ((11, (false, (false, 2))), (1514, (1513, (1512, 115))))))
def s_e236 : sMeth × sMT := ((2, ((Option.some Jvm.ClassFile.FieldType.int), (11, s_cd236))), ((⟨"OldestLawModel", "rowFault", "(I)I"⟩, prog_13_method_58_code), ((11, (false, (false, 1))), (1533, (71, (1532, 115))))))
def s_e237 : sMeth × sMT := ((3, ((Option.some Jvm.ClassFile.FieldType.int), (11, s_cd237))), ((⟨"OldestLawModel", "caseAt", "(II)I"⟩, prog_13_method_59_code), ((11, (false, (false, 2))), (1545, (74, (1544, 115))))))
def s_e238 : sMeth × sMT := ((3, ((Option.some Jvm.ClassFile.FieldType.int), (11, s_cd238))), ((⟨"OldestLawModel", "dueAt", "(II)I"⟩, prog_13_method_60_code), ((11, (false, (false, 2))), (1549, (75, (1548, 115))))))
def s_e239 : sMeth × sMT := ((3, ((Option.some Jvm.ClassFile.FieldType.boolean), (11, s_cd239))), ((⟨"OldestLawModel", "isTwo", "(II)Z"⟩, prog_13_method_61_code), ((11, (false, (false, 2))), (1541, (73, (1540, 115))))))
def s_e240 : sMeth × sMT := ((3, ((Option.some Jvm.ClassFile.FieldType.int), (11, s_cd240))), ((⟨"OldestLawModel", "wrongIn", "(I)I"⟩, prog_13_method_62_code), ((11, (false, (false, 1))), (1537, (72, (1536, 115))))))
def s_e241 : sMeth × sMT := ((2, ((Option.some Jvm.ClassFile.FieldType.int), (11, s_cd241))), ((⟨"OldestLawModel", "judge", "(I)I"⟩, prog_13_method_63_code), ((11, (false, (false, 1))), (1529, (1528, (1527, 115))))))
def s_e242 : sMeth × sMT := ((4, ((Option.some Jvm.ClassFile.FieldType.int), (11, s_cd242))), ((⟨"OldestLawModel", "never", "()I"⟩, prog_13_method_64_code), ((11, (false, (false, 0))), (1557, (1556, (1555, 115))))))
def s_e243 : sMeth × sMT := ((6, ((Option.some Jvm.ClassFile.FieldType.int), (11, s_cd243))), ((⟨"OldestLawModel", "clash", "(II)I"⟩, prog_13_method_65_code), ((11, (false, (false, 2))), (1561, (1560, (1559, 115))))))
def s_e244 : sMeth × sMT := ((6, ((Option.some Jvm.ClassFile.FieldType.boolean), (11, s_cd244))), ((⟨"OldestLawModel", "isSo", "(II)Z"⟩, prog_13_method_66_code), ((11, (false, (false, 2))), (1580, (79, (1579, 115))))))
def s_e245 : sMeth × sMT := ((5, ((Option.none : Option Jvm.ClassFile.FieldType), (11, s_cd245))), ((⟨"OldestLawModel", "findWording", "(II)V"⟩, prog_13_method_67_code), ((11, (false, (false, 2))), (1576, (78, (1575, 115))))))
def s_e246 : sMeth × sMT := ((3, ((Option.some Jvm.ClassFile.FieldType.int), (11, s_cd246))), ((⟨"OldestLawModel", "verdictWith", "(I)I"⟩, prog_13_method_68_code), ((11, (false, (false, 1))), (1588, (81, (1587, 115))))))
def s_e247 : sMeth × sMT := ((3, ((Option.some Jvm.ClassFile.FieldType.boolean), (11, s_cd247))), ((⟨"OldestLawModel", "isRowSo", "(I)Z"⟩, prog_13_method_69_code), ((11, (false, (false, 1))), (1584, (80, (1583, 115))))))
def s_e248 : sMeth × sMT := ((3, ((Option.none : Option Jvm.ClassFile.FieldType), (11, s_cd248))), ((⟨"OldestLawModel", "writes", "(II)V"⟩, prog_13_method_70_code), ((11, (false, (false, 2))), (1572, (77, (1571, 115))))))
def s_e249 : sMeth × sMT := ((6, ((Option.some Jvm.ClassFile.FieldType.int), (11, s_cd249))), ((⟨"OldestLawModel", "write", "(III)I"⟩, prog_13_method_71_code), ((11, (false, (false, 3))), (1568, (1567, (1566, 115))))))
def s_e250 : sMeth × sMT := ((5, ((Option.some Jvm.ClassFile.FieldType.boolean), (11, s_cd250))), ((⟨"OldestLawModel", "canBe", "(II)Z"⟩, prog_13_method_72_code), ((11, (false, (false, 2))), (1596, (82, (1595, 115))))))
def s_e251 : sMeth × sMT := ((7, ((Option.some Jvm.ClassFile.FieldType.int), (11, s_cd251))), ((⟨"OldestLawModel", "bars", "(III)I"⟩, prog_13_method_73_code), ((11, (false, (false, 3))), (1592, (1591, (1590, 115))))))
def s_e252 : sMeth × sMT := ((3, ((Option.none : Option Jvm.ClassFile.FieldType), (11, s_cd252))), ((⟨"OldestLawModel", "keepVerdicts", "(I)V"⟩, prog_13_method_74_code), ((11, (false, (false, 1))), (1604, (83, (1603, 115))))))
def s_e253 : sMeth × sMT := ((6, ((Option.some Jvm.ClassFile.FieldType.int), (11, s_cd253))), ((⟨"OldestLawModel", "unlikeNow", "(II)I"⟩, prog_13_method_75_code), ((11, (false, (false, 2))), (1608, (84, (1607, 115))))))
def s_e254 : sMeth × sMT := ((5, ((Option.some Jvm.ClassFile.FieldType.int), (11, s_cd254))), ((⟨"OldestLawModel", "meant", "(II)I"⟩, prog_13_method_76_code), ((11, (false, (false, 2))), (1600, (1599, (1598, 115))))))
def s_e255 : sMeth × sMT := ((4, ((Option.some Jvm.ClassFile.FieldType.int), (11, s_cd255))), ((⟨"OldestLawModel", "falseOnes", "(I)I"⟩, prog_13_method_77_code), ((11, (false, (false, 1))), (1612, (1611, (1610, 115))))))
def s_e256 : sMeth × sMT := ((7, ((Option.some Jvm.ClassFile.FieldType.int), (11, s_cd256))), ((⟨"OldestLawModel", "under", "(II)I"⟩, prog_13_method_78_code), ((11, (false, (false, 2))), (1619, (1618, (1617, 115))))))
def s_e257 : sMeth × sMT := ((3, ((Option.some Jvm.ClassFile.FieldType.int), (11, s_cd257))), ((⟨"OldestLawModel", "unlike", "(II)I"⟩, prog_13_method_79_code), ((11, (false, (false, 2))), (1623, (1622, (1621, 115))))))
def s_e258 : sMeth × sMT := ((2, ((Option.some Jvm.ClassFile.FieldType.int), (11, s_cd258))), ((⟨"OldestLawModel", "struckBy", "(I)I"⟩, prog_13_method_80_code), ((11, (false, (false, 1))), (1631, (85, (1630, 115))))))
def s_e259 : sMeth × sMT := ((5, ((Option.some Jvm.ClassFile.FieldType.int), (11, s_cd259))), ((⟨"OldestLawModel", "rings", "()I"⟩, prog_13_method_81_code), ((11, (false, (false, 0))), (1627, (1626, (1625, 115))))))
def s_e260 : sMeth × sMT := ((2, ((Option.some Jvm.ClassFile.FieldType.int), (11, s_cd260))), ((⟨"OldestLawModel", "image", "()I"⟩, prog_13_method_82_code), ((11, (false, (false, 0))), (1635, (1634, (1633, 115))))))
def s_e261 : sMeth × sMT := ((2, ((Option.some Jvm.ClassFile.FieldType.int), (11, s_cd261))), ((⟨"OldestLawModel", "back", "()I"⟩, prog_13_method_83_code), ((11, (false, (false, 0))), (1639, (1638, (1637, 115))))))
def s_e262 : sMeth × sMT := ((2, ((Option.some Jvm.ClassFile.FieldType.boolean), (11, s_cd262))), ((⟨"OldestLawModel", "isBody", "(I)Z"⟩, prog_13_method_84_code), ((11, (false, (false, 1))), (1655, (86, (1654, 115))))))
def s_e263 : sMeth × sMT := ((2, ((Option.none : Option Jvm.ClassFile.FieldType), (11, s_cd263))), ((⟨"OldestLawModel", "ran", "(I)V"⟩, prog_13_method_85_code), ((11, (false, (false, 1))), (1666, (88, (1665, 115))))))
def s_e264 : sMeth × sMT := ((2, ((Option.some Jvm.ClassFile.FieldType.int), (11, s_cd264))), ((⟨"OldestLawModel", "trace", "(I)I"⟩, prog_13_method_86_code), ((11, (false, (false, 1))), (1643, (1642, (1641, 115))))))
def s_e265 : sMeth × sMT := ((2, ((Option.some Jvm.ClassFile.FieldType.int), (11, s_cd265))), ((⟨"OldestLawModel", "body", "(I)I"⟩, prog_13_method_87_code), ((11, (false, (false, 1))), (1647, (1646, (1645, 115))))))
def s_e266 : sMeth × sMT := ((2, ((Option.some Jvm.ClassFile.FieldType.boolean), (11, s_cd266))), ((⟨"OldestLawModel", "isUnder", "(II)Z"⟩, prog_13_method_88_code), ((11, (false, (true, 2))), (1662, (0, (1661, 115))))))
def s_e267 : sMeth × sMT := ((3, ((Option.some Jvm.ClassFile.FieldType.int), (11, s_cd267))), ((⟨"OldestLawModel", "plainSays", "(II)I"⟩, prog_13_method_89_code), ((11, (false, (false, 2))), (1670, (89, (1669, 115))))))
def s_e268 : sMeth × sMT := ((3, ((Option.some Jvm.ClassFile.FieldType.int), (11, s_cd268))), ((⟨"OldestLawModel", "wordSays", "(II)I"⟩, prog_13_method_90_code), ((11, (false, (false, 2))), (1674, (90, (1673, 115))))))
def s_e269 : sMeth × sMT := ((3, ((Option.some Jvm.ClassFile.FieldType.int), (11, s_cd269))), ((⟨"OldestLawModel", "saying", "(II)I"⟩, prog_13_method_91_code), ((11, (false, (false, 2))), (1659, (87, (1658, 115))))))
def s_e270 : sMeth × sMT := ((3, ((Option.some Jvm.ClassFile.FieldType.int), (11, s_cd270))), ((⟨"OldestLawModel", "plainHolds", "(II)I"⟩, prog_13_method_92_code), ((11, (false, (false, 2))), (1686, (93, (1685, 115))))))
def s_e271 : sMeth × sMT := ((3, ((Option.some Jvm.ClassFile.FieldType.int), (11, s_cd271))), ((⟨"OldestLawModel", "mayHolds", "(II)I"⟩, prog_13_method_93_code), ((11, (false, (false, 2))), (1682, (92, (1681, 115))))))
def s_e272 : sMeth × sMT := ((4, ((Option.some Jvm.ClassFile.FieldType.int), (11, s_cd272))), ((⟨"OldestLawModel", "holding", "(II)I"⟩, prog_13_method_94_code), ((11, (false, (false, 2))), (1678, (91, (1677, 115))))))
def s_e273 : sMeth × sMT := ((3, ((Option.some Jvm.ClassFile.FieldType.int), (11, s_cd273))), ((⟨"OldestLawModel", "plainBeats", "(II)I"⟩, prog_13_method_95_code), ((11, (false, (false, 2))), (1698, (96, (1697, 115))))))
def s_e274 : sMeth × sMT := ((3, ((Option.some Jvm.ClassFile.FieldType.int), (11, s_cd274))), ((⟨"OldestLawModel", "unlessBeats", "(II)I"⟩, prog_13_method_96_code), ((11, (false, (false, 2))), (1694, (95, (1693, 115))))))
def s_e275 : sMeth × sMT := ((4, ((Option.some Jvm.ClassFile.FieldType.int), (11, s_cd275))), ((⟨"OldestLawModel", "beating", "(II)I"⟩, prog_13_method_97_code), ((11, (false, (false, 2))), (1690, (94, (1689, 115))))))
def s_e276 : sMeth × sMT := ((4, ((Option.some Jvm.ClassFile.FieldType.int), (11, s_cd276))), ((⟨"OldestLawModel", "plainTells", "(II)I"⟩, prog_13_method_98_code), ((11, (false, (false, 2))), (1706, (98, (1705, 115))))))
def s_e277 : sMeth × sMT := ((3, ((Option.some Jvm.ClassFile.FieldType.int), (11, s_cd277))), ((⟨"OldestLawModel", "telling", "(II)I"⟩, prog_13_method_99_code), ((11, (false, (false, 2))), (1702, (97, (1701, 115))))))
def s_e278 : sMeth × sMT := ((4, ((Option.some Jvm.ClassFile.FieldType.int), (11, s_cd278))), ((⟨"OldestLawModel", "act", "(III)I"⟩, prog_13_method_100_code), ((11, (false, (false, 3))), (1651, (1650, (1649, 115))))))
def s_e279 : sMeth × sMT := ((1, ((Option.some Jvm.ClassFile.FieldType.int), (11, s_cd279))), ((⟨"OldestLawModel", "countStanding", "()I"⟩, prog_13_method_101_code), ((11, (false, (false, 0))), (1718, (100, (1717, 115))))))
def s_e280 : sMeth × sMT := ((2, ((Option.some Jvm.ClassFile.FieldType.int), (11, s_cd280))), ((⟨"OldestLawModel", "count", "(I)I"⟩, prog_13_method_102_code), ((11, (false, (false, 1))), (1710, (1709, (1708, 115))))))
def s_e281 : sMeth × sMT := ((1, ((Option.some Jvm.ClassFile.FieldType.boolean), (11, s_cd281))), ((⟨"OldestLawModel", "isShelf", "(I)Z"⟩, prog_13_method_103_code), ((11, (false, (true, 1))), (1404, (0, (1403, 115))))))
def s_e282 : sMeth × sMT := ((3, ((Option.some Jvm.ClassFile.FieldType.int), (11, s_cd282))), ((⟨"OldestLawModel", "keep", "(II)I"⟩, prog_13_method_104_code), ((11, (false, (false, 2))), (1726, (1725, (1724, 115))))))
def s_e283 : sMeth × sMT := ((5, ((Option.some Jvm.ClassFile.FieldType.int), (11, s_cd283))), ((⟨"OldestLawModel", "row", "(III)I"⟩, prog_13_method_105_code), ((11, (false, (false, 3))), (1730, (1729, (1728, 115))))))
def s_e284 : sMeth × sMT := ((3, ((Option.some Jvm.ClassFile.FieldType.int), (11, s_cd284))), ((⟨"OldestLawModel", "whyNoPlace", "(II)I"⟩, prog_13_method_106_code), ((11, (false, (false, 2))), (1738, (102, (1737, 115))))))
def s_e285 : sMeth × sMT := ((7, ((Option.some Jvm.ClassFile.FieldType.int), (11, s_cd285))), ((⟨"OldestLawModel", "put", "(IIJ)I"⟩, prog_13_method_107_code), ((11, (false, (false, 3))), (1734, (1733, (1732, 115))))))
def s_e286 : sMeth × sMT := ((3, ((Option.some Jvm.ClassFile.FieldType.long), (11, s_cd286))), ((⟨"OldestLawModel", "element", "(II)J"⟩, prog_13_method_108_code), ((11, (false, (false, 2))), (1742, (1741, (1740, 115))))))
def s_e287 : sMeth × sMT := ((7, ((Option.some Jvm.ClassFile.FieldType.int), (11, s_cd287))), ((⟨"OldestLawModel", "shift", "(IIIII)I"⟩, prog_13_method_109_code), ((11, (false, (false, 5))), (1747, (1746, (1745, 115))))))
def s_e288 : sMeth × sMT := ((3, ((Option.some Jvm.ClassFile.FieldType.int), (11, s_cd288))), ((⟨"OldestLawModel", "taken", "(II)I"⟩, prog_13_method_110_code), ((11, (false, (false, 2))), (1751, (1750, (1749, 115))))))
def s_e289 : sMeth × sMT := ((1, ((Option.some Jvm.ClassFile.FieldType.int), (13, s_cd289))), ((⟨"java/lang/Integer", "bitCount", "(I)I"⟩, prog_14_method_49_code), ((13, (false, (true, 1))), (935, (0, (934, 119))))))
def s_e290 : sMeth × sMT := ((2, ((Option.some Jvm.ClassFile.FieldType.int), (14, s_cd290))), ((⟨"java/lang/Long", "bitCount", "(J)I"⟩, prog_15_method_50_code), ((14, (false, (true, 1))), (720, (0, (719, 118))))))
def s_ents : List (List (sMeth × sMT)) := [[s_e1, s_e1, s_e2, s_e3, s_e4, s_e5, s_e6, s_e7, s_e8, s_e9, s_e10, s_e11, s_e12, s_e13, s_e14, s_e15], [s_e16, s_e17, s_e18, s_e19, s_e20, s_e21, s_e22, s_e23, s_e24, s_e25, s_e26, s_e27, s_e28, s_e29, s_e30, s_e31], [s_e32, s_e33, s_e34, s_e35, s_e36, s_e37, s_e38, s_e39, s_e40, s_e41, s_e42, s_e43, s_e44, s_e45, s_e46, s_e47], [s_e48, s_e49, s_e50, s_e51, s_e52, s_e53, s_e54, s_e55, s_e56, s_e57, s_e58, s_e59, s_e60, s_e61, s_e62, s_e63], [s_e64, s_e65, s_e66, s_e67, s_e68, s_e69, s_e70, s_e71, s_e72, s_e73, s_e74, s_e75, s_e76, s_e77, s_e78, s_e79], [s_e80, s_e81, s_e82, s_e83, s_e84, s_e85, s_e86, s_e87, s_e88, s_e89, s_e90, s_e91, s_e92, s_e93, s_e94, s_e95], [s_e96, s_e97, s_e98, s_e99, s_e100, s_e101, s_e102, s_e103, s_e104, s_e105, s_e106, s_e107, s_e108, s_e109, s_e110, s_e111], [s_e112, s_e113, s_e114, s_e115, s_e116, s_e117, s_e118, s_e119, s_e120, s_e121, s_e122, s_e123, s_e124, s_e125, s_e126, s_e127], [s_e128, s_e129, s_e130, s_e131, s_e132, s_e133, s_e134, s_e135, s_e136, s_e137, s_e138, s_e139, s_e140, s_e141, s_e142, s_e143], [s_e144, s_e145, s_e146, s_e147, s_e148, s_e149, s_e150, s_e151, s_e152, s_e153, s_e154, s_e155, s_e156, s_e157, s_e158, s_e159], [s_e160, s_e161, s_e162, s_e163, s_e164, s_e165, s_e166, s_e167, s_e168, s_e169, s_e170, s_e171, s_e172, s_e173, s_e174, s_e175], [s_e176, s_e177, s_e178, s_e179, s_e180, s_e181, s_e182, s_e183, s_e184, s_e185, s_e186, s_e187, s_e188, s_e189, s_e190, s_e191], [s_e192, s_e193, s_e194, s_e195, s_e196, s_e197, s_e198, s_e199, s_e200, s_e201, s_e202, s_e203, s_e204, s_e205, s_e206, s_e207], [s_e208, s_e209, s_e210, s_e211, s_e212, s_e213, s_e214, s_e215, s_e216, s_e217, s_e218, s_e219, s_e220, s_e221, s_e222, s_e223], [s_e224, s_e225, s_e226, s_e227, s_e228, s_e229, s_e230, s_e231, s_e232, s_e233, s_e234, s_e235, s_e236, s_e237, s_e238, s_e239], [s_e240, s_e241, s_e242, s_e243, s_e244, s_e245, s_e246, s_e247, s_e248, s_e249, s_e250, s_e251, s_e252, s_e253, s_e254, s_e255], [s_e256, s_e257, s_e258, s_e259, s_e260, s_e261, s_e262, s_e263, s_e264, s_e265, s_e266, s_e267, s_e268, s_e269, s_e270, s_e271], [s_e272, s_e273, s_e274, s_e275, s_e276, s_e277, s_e278, s_e279, s_e280, s_e281, s_e282, s_e283, s_e284, s_e285, s_e286, s_e287], [s_e288, s_e289, s_e290]]
def s_ent (z : Nat) : Option (sMeth × sMT) := match s_ents[z / 16]? with
  | some l => l[z % 16]?
  | none => none
def s_prog (z : Nat) : Option sMeth := match s_ents[z / 16]? with
  | some l => (match l[z % 16]? with
    | some e => some e.1
    | none => none)
  | none => none
def s_look : List (Nat × (Nat × (Nat × Nat))) → Nat → Nat → Option Nat
  | [], _, _ => none
  | q :: r, o, i => bif Nat.beq q.1 o && Nat.beq q.2.1 i then some q.2.2.1 else s_look r o i
def s_fin (n : Nat) : Bool := match vwCl[n / 64]? with
  | some c => (c.2.1 (n % 64)).2.2.2
  | none => false
def s_res (o : Nat) (ini : Bool) (i : Jvm.ClassFile.Instr) : Option Jvm.ClassFile.Instr := match i with
  | .getfield x => (s_look s_tF o x).map (fun n => .getfield n)
  | .putfield x => (match s_look s_tF o x with
    | some n => bif s_fin n then (bif ini && decide (s_cn o = s_cn (n / 64)) then some (.putstatic n) else none) else some (.putfield n)
    | none => none)
  | .getstatic x => (s_look s_tS o x).map (fun n => .getstatic n)
  | .invokevirtual x => (s_look s_tV o x).map (fun n => .invokevirtual n)
  | .invokespecial x => (s_look s_tI o x).map (fun n => .invokespecial n)
  | .invokestatic x => (match s_look s_tT o x with
    | some n => some (.invokestatic n)
    | none => (match s_look s_tN o x with
      | some n => some (.invokedynamic n)
      | none => (s_look s_tH o x).map (fun n => .invokeinterface n 0)))
  | .new x => (s_look s_tC o x).map (fun n => .new n)
  | .anewarray x => (s_look s_tA o x).map (fun n => .anewarray n)
  | .ldc x => (s_look s_tK o x).map (fun n => .ldc n)
  | .ldc_w x => (s_look s_tK o x).map (fun n => .ldc_w n)
  | .ldc2_w x => (s_look s_tL o x).map (fun n => .ldc2_w n)
  | .putstatic _ => none
  | .invokedynamic _ => none
  | .invokeinterface _ _ => none
  | j => some j
def s_chk1 (o : Nat) (ini : Bool) (cc : ByteArray) (cd : sCode) (pc : Nat) : Bool := match s_fetch cd pc with
  | none => true
  | some i => (match decode cc pc with
    | .ok r => decide (r.2 = i.2) && decide (s_res o ini r.1 = some i.1)
    | _ => false)
def s_chk (o : Nat) (ini : Bool) (cc : ByteArray) (cd : sCode) : Bool := (List.range (16 * cd.length)).all (s_chk1 o ini cc cd)
def s_mok (e : sMeth × sMT) : Bool :=
  plainName e.2.1.1.cls && (decide (lw_tbl[e.2.2.2.1]? = some (.code e.2.1.1 e.2.1.2 e.1.1 e.1.2.1)) && (s_chk e.2.2.1.1 e.2.2.1.2.1 e.2.1.2 e.1.2.2.2 && (decide ((parseMethodDescriptor e.2.1.1.desc).map (fun d => d.parameters.length) = some e.2.2.1.2.2.2) &&
  (decide (e.2.1.1.cls = s_cn e.2.2.1.1) && (decide (e.2.1.1.cls ≠ "java/lang/invoke/MethodHandle" ∧ e.2.1.1.cls ≠ "java/lang/invoke/VarHandle") && (decide (lw_tbl[e.2.2.2.2.2.2]? = some (.initialized e.2.1.1.cls)) &&
  ((bif e.2.2.1.2.2.1 then decide (lw_tbl[e.2.2.2.2.2.1]? = some (.static e.2.1.1)) else decide (lw_tbl[e.2.2.2.2.2.1]? = some (.instanceMethod e.2.1.1))) &&
  ((e.2.2.1.2.2.1 || (e.2.2.1.2.1 || (decide (lw_tbl[e.2.2.2.2.1]? = some (.selects e.2.1.1.cls e.2.1.1 e.2.1.1)) && decide (e.2.2.1.1 = e.1.2.2.1 ∧ e.1.2.2.1 < 12)))) &&
  ((!e.2.2.1.2.1 || (decide (e.2.1.1.name = "<init>" ∧ e.1.2.1 = none) && !e.2.2.1.2.2.1)))))))))))
end
section
set_option maxRecDepth 100000 in
theorem s_mok_e1 : s_mok s_e1 = true := by decide +kernel
set_option maxRecDepth 100000 in
theorem s_mok_e2 : s_mok s_e2 = true := by decide +kernel
set_option maxRecDepth 100000 in
theorem s_mok_e3 : s_mok s_e3 = true := by decide +kernel
set_option maxRecDepth 100000 in
theorem s_mok_e4 : s_mok s_e4 = true := by decide +kernel
set_option maxRecDepth 100000 in
theorem s_mok_e5 : s_mok s_e5 = true := by decide +kernel
set_option maxRecDepth 100000 in
theorem s_mok_e6 : s_mok s_e6 = true := by decide +kernel
set_option maxRecDepth 100000 in
theorem s_mok_e7 : s_mok s_e7 = true := by decide +kernel
set_option maxRecDepth 100000 in
theorem s_mok_e8 : s_mok s_e8 = true := by decide +kernel
set_option maxRecDepth 100000 in
theorem s_mok_e9 : s_mok s_e9 = true := by decide +kernel
set_option maxRecDepth 100000 in
theorem s_mok_e10 : s_mok s_e10 = true := by decide +kernel
set_option maxRecDepth 100000 in
theorem s_mok_e11 : s_mok s_e11 = true := by decide +kernel
set_option maxRecDepth 100000 in
theorem s_mok_e12 : s_mok s_e12 = true := by decide +kernel
set_option maxRecDepth 100000 in
theorem s_mok_e13 : s_mok s_e13 = true := by decide +kernel
set_option maxRecDepth 100000 in
theorem s_mok_e14 : s_mok s_e14 = true := by decide +kernel
set_option maxRecDepth 100000 in
theorem s_mok_e15 : s_mok s_e15 = true := by decide +kernel
set_option maxRecDepth 100000 in
theorem s_mok_e16 : s_mok s_e16 = true := by decide +kernel
set_option maxRecDepth 100000 in
theorem s_mok_e17 : s_mok s_e17 = true := by decide +kernel
set_option maxRecDepth 100000 in
theorem s_mok_e18 : s_mok s_e18 = true := by decide +kernel
set_option maxRecDepth 100000 in
theorem s_mok_e19 : s_mok s_e19 = true := by decide +kernel
set_option maxRecDepth 100000 in
theorem s_mok_e20 : s_mok s_e20 = true := by decide +kernel
set_option maxRecDepth 100000 in
theorem s_mok_e21 : s_mok s_e21 = true := by decide +kernel
set_option maxRecDepth 100000 in
theorem s_mok_e22 : s_mok s_e22 = true := by decide +kernel
set_option maxRecDepth 100000 in
theorem s_mok_e23 : s_mok s_e23 = true := by decide +kernel
set_option maxRecDepth 100000 in
theorem s_mok_e24 : s_mok s_e24 = true := by decide +kernel
set_option maxRecDepth 100000 in
theorem s_mok_e25 : s_mok s_e25 = true := by decide +kernel
set_option maxRecDepth 100000 in
theorem s_mok_e26 : s_mok s_e26 = true := by decide +kernel
set_option maxRecDepth 100000 in
theorem s_mok_e27 : s_mok s_e27 = true := by decide +kernel
set_option maxRecDepth 100000 in
theorem s_mok_e28 : s_mok s_e28 = true := by decide +kernel
set_option maxRecDepth 100000 in
theorem s_mok_e29 : s_mok s_e29 = true := by decide +kernel
set_option maxRecDepth 100000 in
theorem s_mok_e30 : s_mok s_e30 = true := by decide +kernel
set_option maxRecDepth 100000 in
theorem s_mok_e31 : s_mok s_e31 = true := by decide +kernel
set_option maxRecDepth 100000 in
theorem s_mok_e32 : s_mok s_e32 = true := by decide +kernel
set_option maxRecDepth 100000 in
theorem s_mok_e33 : s_mok s_e33 = true := by decide +kernel
set_option maxRecDepth 100000 in
theorem s_mok_e34 : s_mok s_e34 = true := by decide +kernel
set_option maxRecDepth 100000 in
theorem s_mok_e35 : s_mok s_e35 = true := by decide +kernel
set_option maxRecDepth 100000 in
theorem s_mok_e36 : s_mok s_e36 = true := by decide +kernel
set_option maxRecDepth 100000 in
theorem s_mok_e37 : s_mok s_e37 = true := by decide +kernel
set_option maxRecDepth 100000 in
theorem s_mok_e38 : s_mok s_e38 = true := by decide +kernel
set_option maxRecDepth 100000 in
theorem s_mok_e39 : s_mok s_e39 = true := by decide +kernel
set_option maxRecDepth 100000 in
theorem s_mok_e40 : s_mok s_e40 = true := by decide +kernel
set_option maxRecDepth 100000 in
theorem s_mok_e41 : s_mok s_e41 = true := by decide +kernel
set_option maxRecDepth 100000 in
theorem s_mok_e42 : s_mok s_e42 = true := by decide +kernel
set_option maxRecDepth 100000 in
theorem s_mok_e43 : s_mok s_e43 = true := by decide +kernel
set_option maxRecDepth 100000 in
theorem s_mok_e44 : s_mok s_e44 = true := by decide +kernel
set_option maxRecDepth 100000 in
theorem s_mok_e45 : s_mok s_e45 = true := by decide +kernel
set_option maxRecDepth 100000 in
theorem s_mok_e46 : s_mok s_e46 = true := by decide +kernel
set_option maxRecDepth 100000 in
theorem s_mok_e47 : s_mok s_e47 = true := by decide +kernel
set_option maxRecDepth 100000 in
theorem s_mok_e48 : s_mok s_e48 = true := by decide +kernel
set_option maxRecDepth 100000 in
theorem s_mok_e49 : s_mok s_e49 = true := by decide +kernel
set_option maxRecDepth 100000 in
theorem s_mok_e50 : s_mok s_e50 = true := by decide +kernel
set_option maxRecDepth 100000 in
theorem s_mok_e51 : s_mok s_e51 = true := by decide +kernel
set_option maxRecDepth 100000 in
theorem s_mok_e52 : s_mok s_e52 = true := by decide +kernel
set_option maxRecDepth 100000 in
theorem s_mok_e53 : s_mok s_e53 = true := by decide +kernel
set_option maxRecDepth 100000 in
theorem s_mok_e54 : s_mok s_e54 = true := by decide +kernel
set_option maxRecDepth 100000 in
theorem s_mok_e55 : s_mok s_e55 = true := by decide +kernel
set_option maxRecDepth 100000 in
theorem s_mok_e56 : s_mok s_e56 = true := by decide +kernel
set_option maxRecDepth 100000 in
theorem s_mok_e57 : s_mok s_e57 = true := by decide +kernel
set_option maxRecDepth 100000 in
theorem s_mok_e58 : s_mok s_e58 = true := by decide +kernel
set_option maxRecDepth 100000 in
theorem s_mok_e59 : s_mok s_e59 = true := by decide +kernel
set_option maxRecDepth 100000 in
theorem s_mok_e60 : s_mok s_e60 = true := by decide +kernel
set_option maxRecDepth 100000 in
theorem s_mok_e61 : s_mok s_e61 = true := by decide +kernel
set_option maxRecDepth 100000 in
theorem s_mok_e62 : s_mok s_e62 = true := by decide +kernel
set_option maxRecDepth 100000 in
theorem s_mok_e63 : s_mok s_e63 = true := by decide +kernel
set_option maxRecDepth 100000 in
theorem s_mok_e64 : s_mok s_e64 = true := by decide +kernel
end
section
set_option maxRecDepth 100000 in
theorem s_mok_e65 : s_mok s_e65 = true := by decide +kernel
set_option maxRecDepth 100000 in
theorem s_mok_e66 : s_mok s_e66 = true := by decide +kernel
set_option maxRecDepth 100000 in
theorem s_mok_e67 : s_mok s_e67 = true := by decide +kernel
set_option maxRecDepth 100000 in
theorem s_mok_e68 : s_mok s_e68 = true := by decide +kernel
set_option maxRecDepth 100000 in
theorem s_mok_e69 : s_mok s_e69 = true := by decide +kernel
set_option maxRecDepth 100000 in
theorem s_mok_e70 : s_mok s_e70 = true := by decide +kernel
set_option maxRecDepth 100000 in
theorem s_mok_e71 : s_mok s_e71 = true := by decide +kernel
set_option maxRecDepth 100000 in
theorem s_mok_e72 : s_mok s_e72 = true := by decide +kernel
set_option maxRecDepth 100000 in
theorem s_mok_e73 : s_mok s_e73 = true := by decide +kernel
set_option maxRecDepth 100000 in
theorem s_mok_e74 : s_mok s_e74 = true := by decide +kernel
set_option maxRecDepth 100000 in
theorem s_mok_e75 : s_mok s_e75 = true := by decide +kernel
set_option maxRecDepth 100000 in
theorem s_mok_e76 : s_mok s_e76 = true := by decide +kernel
set_option maxRecDepth 100000 in
theorem s_mok_e77 : s_mok s_e77 = true := by decide +kernel
set_option maxRecDepth 100000 in
theorem s_mok_e78 : s_mok s_e78 = true := by decide +kernel
set_option maxRecDepth 100000 in
theorem s_mok_e79 : s_mok s_e79 = true := by decide +kernel
set_option maxRecDepth 100000 in
theorem s_mok_e80 : s_mok s_e80 = true := by decide +kernel
set_option maxRecDepth 100000 in
theorem s_mok_e81 : s_mok s_e81 = true := by decide +kernel
set_option maxRecDepth 100000 in
theorem s_mok_e82 : s_mok s_e82 = true := by decide +kernel
set_option maxRecDepth 100000 in
theorem s_mok_e83 : s_mok s_e83 = true := by decide +kernel
set_option maxRecDepth 100000 in
theorem s_mok_e84 : s_mok s_e84 = true := by decide +kernel
set_option maxRecDepth 100000 in
theorem s_mok_e85 : s_mok s_e85 = true := by decide +kernel
set_option maxRecDepth 100000 in
theorem s_mok_e86 : s_mok s_e86 = true := by decide +kernel
set_option maxRecDepth 100000 in
theorem s_mok_e87 : s_mok s_e87 = true := by decide +kernel
set_option maxRecDepth 100000 in
theorem s_mok_e88 : s_mok s_e88 = true := by decide +kernel
set_option maxRecDepth 100000 in
theorem s_mok_e89 : s_mok s_e89 = true := by decide +kernel
set_option maxRecDepth 100000 in
theorem s_mok_e90 : s_mok s_e90 = true := by decide +kernel
set_option maxRecDepth 100000 in
theorem s_mok_e91 : s_mok s_e91 = true := by decide +kernel
set_option maxRecDepth 100000 in
theorem s_mok_e92 : s_mok s_e92 = true := by decide +kernel
set_option maxRecDepth 100000 in
theorem s_mok_e93 : s_mok s_e93 = true := by decide +kernel
set_option maxRecDepth 100000 in
theorem s_mok_e94 : s_mok s_e94 = true := by decide +kernel
set_option maxRecDepth 100000 in
theorem s_mok_e95 : s_mok s_e95 = true := by decide +kernel
set_option maxRecDepth 100000 in
theorem s_mok_e96 : s_mok s_e96 = true := by decide +kernel
set_option maxRecDepth 100000 in
theorem s_mok_e97 : s_mok s_e97 = true := by decide +kernel
set_option maxRecDepth 100000 in
theorem s_mok_e98 : s_mok s_e98 = true := by decide +kernel
set_option maxRecDepth 100000 in
theorem s_mok_e99 : s_mok s_e99 = true := by decide +kernel
set_option maxRecDepth 100000 in
theorem s_mok_e100 : s_mok s_e100 = true := by decide +kernel
set_option maxRecDepth 100000 in
theorem s_mok_e101 : s_mok s_e101 = true := by decide +kernel
set_option maxRecDepth 100000 in
theorem s_mok_e102 : s_mok s_e102 = true := by decide +kernel
set_option maxRecDepth 100000 in
theorem s_mok_e103 : s_mok s_e103 = true := by decide +kernel
set_option maxRecDepth 100000 in
theorem s_mok_e104 : s_mok s_e104 = true := by decide +kernel
set_option maxRecDepth 100000 in
theorem s_mok_e105 : s_mok s_e105 = true := by decide +kernel
set_option maxRecDepth 100000 in
theorem s_mok_e106 : s_mok s_e106 = true := by decide +kernel
set_option maxRecDepth 100000 in
theorem s_mok_e107 : s_mok s_e107 = true := by decide +kernel
set_option maxRecDepth 100000 in
theorem s_mok_e108 : s_mok s_e108 = true := by decide +kernel
set_option maxRecDepth 100000 in
theorem s_mok_e109 : s_mok s_e109 = true := by decide +kernel
set_option maxRecDepth 100000 in
theorem s_mok_e110 : s_mok s_e110 = true := by decide +kernel
set_option maxRecDepth 100000 in
theorem s_mok_e111 : s_mok s_e111 = true := by decide +kernel
set_option maxRecDepth 100000 in
theorem s_mok_e112 : s_mok s_e112 = true := by decide +kernel
set_option maxRecDepth 100000 in
theorem s_mok_e113 : s_mok s_e113 = true := by decide +kernel
set_option maxRecDepth 100000 in
theorem s_mok_e114 : s_mok s_e114 = true := by decide +kernel
set_option maxRecDepth 100000 in
theorem s_mok_e115 : s_mok s_e115 = true := by decide +kernel
set_option maxRecDepth 100000 in
theorem s_mok_e116 : s_mok s_e116 = true := by decide +kernel
set_option maxRecDepth 100000 in
theorem s_mok_e117 : s_mok s_e117 = true := by decide +kernel
set_option maxRecDepth 100000 in
theorem s_mok_e118 : s_mok s_e118 = true := by decide +kernel
set_option maxRecDepth 100000 in
theorem s_mok_e119 : s_mok s_e119 = true := by decide +kernel
set_option maxRecDepth 100000 in
theorem s_mok_e120 : s_mok s_e120 = true := by decide +kernel
set_option maxRecDepth 100000 in
theorem s_mok_e121 : s_mok s_e121 = true := by decide +kernel
set_option maxRecDepth 100000 in
theorem s_mok_e122 : s_mok s_e122 = true := by decide +kernel
set_option maxRecDepth 100000 in
theorem s_mok_e123 : s_mok s_e123 = true := by decide +kernel
set_option maxRecDepth 100000 in
theorem s_mok_e124 : s_mok s_e124 = true := by decide +kernel
set_option maxRecDepth 100000 in
theorem s_mok_e125 : s_mok s_e125 = true := by decide +kernel
end
section
set_option maxRecDepth 100000 in
theorem s_mok_e126 : s_mok s_e126 = true := by decide +kernel
set_option maxRecDepth 100000 in
theorem s_mok_e127 : s_mok s_e127 = true := by decide +kernel
set_option maxRecDepth 100000 in
theorem s_mok_e128 : s_mok s_e128 = true := by decide +kernel
set_option maxRecDepth 100000 in
theorem s_mok_e129 : s_mok s_e129 = true := by decide +kernel
set_option maxRecDepth 100000 in
theorem s_mok_e130 : s_mok s_e130 = true := by decide +kernel
set_option maxRecDepth 100000 in
theorem s_mok_e131 : s_mok s_e131 = true := by decide +kernel
set_option maxRecDepth 100000 in
theorem s_mok_e132 : s_mok s_e132 = true := by decide +kernel
set_option maxRecDepth 100000 in
theorem s_mok_e133 : s_mok s_e133 = true := by decide +kernel
set_option maxRecDepth 100000 in
theorem s_mok_e134 : s_mok s_e134 = true := by decide +kernel
set_option maxRecDepth 100000 in
theorem s_mok_e135 : s_mok s_e135 = true := by decide +kernel
set_option maxRecDepth 100000 in
theorem s_mok_e136 : s_mok s_e136 = true := by decide +kernel
set_option maxRecDepth 100000 in
theorem s_mok_e137 : s_mok s_e137 = true := by decide +kernel
set_option maxRecDepth 100000 in
theorem s_mok_e138 : s_mok s_e138 = true := by decide +kernel
set_option maxRecDepth 100000 in
theorem s_mok_e139 : s_mok s_e139 = true := by decide +kernel
set_option maxRecDepth 100000 in
theorem s_mok_e140 : s_mok s_e140 = true := by decide +kernel
set_option maxRecDepth 100000 in
theorem s_mok_e141 : s_mok s_e141 = true := by decide +kernel
set_option maxRecDepth 100000 in
theorem s_mok_e142 : s_mok s_e142 = true := by decide +kernel
set_option maxRecDepth 100000 in
theorem s_mok_e143 : s_mok s_e143 = true := by decide +kernel
set_option maxRecDepth 100000 in
theorem s_mok_e144 : s_mok s_e144 = true := by decide +kernel
set_option maxRecDepth 100000 in
theorem s_mok_e145 : s_mok s_e145 = true := by decide +kernel
set_option maxRecDepth 100000 in
theorem s_mok_e146 : s_mok s_e146 = true := by decide +kernel
set_option maxRecDepth 100000 in
theorem s_mok_e147 : s_mok s_e147 = true := by decide +kernel
set_option maxRecDepth 100000 in
theorem s_mok_e148 : s_mok s_e148 = true := by decide +kernel
set_option maxRecDepth 100000 in
theorem s_mok_e149 : s_mok s_e149 = true := by decide +kernel
set_option maxRecDepth 100000 in
theorem s_mok_e150 : s_mok s_e150 = true := by decide +kernel
set_option maxRecDepth 100000 in
theorem s_mok_e151 : s_mok s_e151 = true := by decide +kernel
set_option maxRecDepth 100000 in
theorem s_mok_e152 : s_mok s_e152 = true := by decide +kernel
set_option maxRecDepth 100000 in
theorem s_mok_e153 : s_mok s_e153 = true := by decide +kernel
set_option maxRecDepth 100000 in
theorem s_mok_e154 : s_mok s_e154 = true := by decide +kernel
set_option maxRecDepth 100000 in
theorem s_mok_e155 : s_mok s_e155 = true := by decide +kernel
set_option maxRecDepth 100000 in
theorem s_mok_e156 : s_mok s_e156 = true := by decide +kernel
set_option maxRecDepth 100000 in
theorem s_mok_e157 : s_mok s_e157 = true := by decide +kernel
set_option maxRecDepth 100000 in
theorem s_mok_e158 : s_mok s_e158 = true := by decide +kernel
set_option maxRecDepth 100000 in
theorem s_mok_e159 : s_mok s_e159 = true := by decide +kernel
set_option maxRecDepth 100000 in
theorem s_mok_e160 : s_mok s_e160 = true := by decide +kernel
set_option maxRecDepth 100000 in
theorem s_mok_e161 : s_mok s_e161 = true := by decide +kernel
set_option maxRecDepth 100000 in
theorem s_mok_e162 : s_mok s_e162 = true := by decide +kernel
set_option maxRecDepth 100000 in
theorem s_mok_e163 : s_mok s_e163 = true := by decide +kernel
set_option maxRecDepth 100000 in
theorem s_mok_e164 : s_mok s_e164 = true := by decide +kernel
set_option maxRecDepth 100000 in
theorem s_mok_e165 : s_mok s_e165 = true := by decide +kernel
set_option maxRecDepth 100000 in
theorem s_mok_e166 : s_mok s_e166 = true := by decide +kernel
set_option maxRecDepth 100000 in
theorem s_mok_e167 : s_mok s_e167 = true := by decide +kernel
end
section
set_option maxRecDepth 100000 in
theorem s_mok_e168 : s_mok s_e168 = true := by decide +kernel
set_option maxRecDepth 100000 in
theorem s_mok_e169 : s_mok s_e169 = true := by decide +kernel
set_option maxRecDepth 100000 in
theorem s_mok_e170 : s_mok s_e170 = true := by decide +kernel
set_option maxRecDepth 100000 in
theorem s_mok_e171 : s_mok s_e171 = true := by decide +kernel
set_option maxRecDepth 100000 in
theorem s_mok_e172 : s_mok s_e172 = true := by decide +kernel
set_option maxRecDepth 100000 in
theorem s_mok_e173 : s_mok s_e173 = true := by decide +kernel
set_option maxRecDepth 100000 in
theorem s_mok_e174 : s_mok s_e174 = true := by decide +kernel
set_option maxRecDepth 100000 in
theorem s_mok_e175 : s_mok s_e175 = true := by decide +kernel
set_option maxRecDepth 100000 in
theorem s_mok_e176 : s_mok s_e176 = true := by decide +kernel
set_option maxRecDepth 100000 in
theorem s_mok_e177 : s_mok s_e177 = true := by decide +kernel
set_option maxRecDepth 100000 in
theorem s_mok_e178 : s_mok s_e178 = true := by decide +kernel
set_option maxRecDepth 100000 in
theorem s_mok_e179 : s_mok s_e179 = true := by decide +kernel
set_option maxRecDepth 100000 in
theorem s_mok_e180 : s_mok s_e180 = true := by decide +kernel
set_option maxRecDepth 100000 in
theorem s_mok_e181 : s_mok s_e181 = true := by decide +kernel
set_option maxRecDepth 100000 in
theorem s_mok_e182 : s_mok s_e182 = true := by decide +kernel
set_option maxRecDepth 100000 in
theorem s_mok_e183 : s_mok s_e183 = true := by decide +kernel
set_option maxRecDepth 100000 in
theorem s_mok_e184 : s_mok s_e184 = true := by decide +kernel
set_option maxRecDepth 100000 in
theorem s_mok_e185 : s_mok s_e185 = true := by decide +kernel
set_option maxRecDepth 100000 in
theorem s_mok_e186 : s_mok s_e186 = true := by decide +kernel
set_option maxRecDepth 100000 in
theorem s_mok_e187 : s_mok s_e187 = true := by decide +kernel
set_option maxRecDepth 100000 in
theorem s_mok_e188 : s_mok s_e188 = true := by decide +kernel
set_option maxRecDepth 100000 in
theorem s_mok_e189 : s_mok s_e189 = true := by decide +kernel
set_option maxRecDepth 100000 in
theorem s_mok_e190 : s_mok s_e190 = true := by decide +kernel
set_option maxRecDepth 100000 in
theorem s_mok_e191 : s_mok s_e191 = true := by decide +kernel
set_option maxRecDepth 100000 in
theorem s_mok_e192 : s_mok s_e192 = true := by decide +kernel
set_option maxRecDepth 100000 in
theorem s_mok_e193 : s_mok s_e193 = true := by decide +kernel
set_option maxRecDepth 100000 in
theorem s_mok_e194 : s_mok s_e194 = true := by decide +kernel
set_option maxRecDepth 100000 in
theorem s_mok_e195 : s_mok s_e195 = true := by decide +kernel
set_option maxRecDepth 100000 in
theorem s_mok_e196 : s_mok s_e196 = true := by decide +kernel
set_option maxRecDepth 100000 in
theorem s_mok_e197 : s_mok s_e197 = true := by decide +kernel
set_option maxRecDepth 100000 in
theorem s_mok_e198 : s_mok s_e198 = true := by decide +kernel
set_option maxRecDepth 100000 in
theorem s_mok_e199 : s_mok s_e199 = true := by decide +kernel
set_option maxRecDepth 100000 in
theorem s_mok_e200 : s_mok s_e200 = true := by decide +kernel
set_option maxRecDepth 100000 in
theorem s_mok_e201 : s_mok s_e201 = true := by decide +kernel
set_option maxRecDepth 100000 in
theorem s_mok_e202 : s_mok s_e202 = true := by decide +kernel
set_option maxRecDepth 100000 in
theorem s_mok_e203 : s_mok s_e203 = true := by decide +kernel
set_option maxRecDepth 100000 in
theorem s_mok_e204 : s_mok s_e204 = true := by decide +kernel
set_option maxRecDepth 100000 in
theorem s_mok_e205 : s_mok s_e205 = true := by decide +kernel
set_option maxRecDepth 100000 in
theorem s_mok_e206 : s_mok s_e206 = true := by decide +kernel
set_option maxRecDepth 100000 in
theorem s_mok_e207 : s_mok s_e207 = true := by decide +kernel
end
section
set_option maxRecDepth 100000 in
theorem s_mok_e208 : s_mok s_e208 = true := by decide +kernel
set_option maxRecDepth 100000 in
theorem s_mok_e209 : s_mok s_e209 = true := by decide +kernel
set_option maxRecDepth 100000 in
theorem s_mok_e210 : s_mok s_e210 = true := by decide +kernel
set_option maxRecDepth 100000 in
theorem s_mok_e211 : s_mok s_e211 = true := by decide +kernel
set_option maxRecDepth 100000 in
theorem s_mok_e212 : s_mok s_e212 = true := by decide +kernel
set_option maxRecDepth 100000 in
theorem s_mok_e213 : s_mok s_e213 = true := by decide +kernel
set_option maxRecDepth 100000 in
theorem s_mok_e214 : s_mok s_e214 = true := by decide +kernel
set_option maxRecDepth 100000 in
theorem s_mok_e215 : s_mok s_e215 = true := by decide +kernel
set_option maxRecDepth 100000 in
theorem s_mok_e216 : s_mok s_e216 = true := by decide +kernel
set_option maxRecDepth 100000 in
theorem s_mok_e217 : s_mok s_e217 = true := by decide +kernel
set_option maxRecDepth 100000 in
theorem s_mok_e218 : s_mok s_e218 = true := by decide +kernel
set_option maxRecDepth 100000 in
theorem s_mok_e219 : s_mok s_e219 = true := by decide +kernel
set_option maxRecDepth 100000 in
theorem s_mok_e220 : s_mok s_e220 = true := by decide +kernel
set_option maxRecDepth 100000 in
theorem s_mok_e221 : s_mok s_e221 = true := by decide +kernel
set_option maxRecDepth 100000 in
theorem s_mok_e222 : s_mok s_e222 = true := by decide +kernel
set_option maxRecDepth 100000 in
theorem s_mok_e223 : s_mok s_e223 = true := by decide +kernel
set_option maxRecDepth 100000 in
theorem s_mok_e224 : s_mok s_e224 = true := by decide +kernel
set_option maxRecDepth 100000 in
theorem s_mok_e225 : s_mok s_e225 = true := by decide +kernel
set_option maxRecDepth 100000 in
theorem s_mok_e226 : s_mok s_e226 = true := by decide +kernel
set_option maxRecDepth 100000 in
theorem s_mok_e227 : s_mok s_e227 = true := by decide +kernel
set_option maxRecDepth 100000 in
theorem s_mok_e228 : s_mok s_e228 = true := by decide +kernel
set_option maxRecDepth 100000 in
theorem s_mok_e229 : s_mok s_e229 = true := by decide +kernel
set_option maxRecDepth 100000 in
theorem s_mok_e230 : s_mok s_e230 = true := by decide +kernel
set_option maxRecDepth 100000 in
theorem s_mok_e231 : s_mok s_e231 = true := by decide +kernel
set_option maxRecDepth 100000 in
theorem s_mok_e232 : s_mok s_e232 = true := by decide +kernel
set_option maxRecDepth 100000 in
theorem s_mok_e233 : s_mok s_e233 = true := by decide +kernel
set_option maxRecDepth 100000 in
theorem s_mok_e234 : s_mok s_e234 = true := by decide +kernel
set_option maxRecDepth 100000 in
theorem s_mok_e235 : s_mok s_e235 = true := by decide +kernel
set_option maxRecDepth 100000 in
theorem s_mok_e236 : s_mok s_e236 = true := by decide +kernel
set_option maxRecDepth 100000 in
theorem s_mok_e237 : s_mok s_e237 = true := by decide +kernel
set_option maxRecDepth 100000 in
theorem s_mok_e238 : s_mok s_e238 = true := by decide +kernel
set_option maxRecDepth 100000 in
theorem s_mok_e239 : s_mok s_e239 = true := by decide +kernel
set_option maxRecDepth 100000 in
theorem s_mok_e240 : s_mok s_e240 = true := by decide +kernel
set_option maxRecDepth 100000 in
theorem s_mok_e241 : s_mok s_e241 = true := by decide +kernel
set_option maxRecDepth 100000 in
theorem s_mok_e242 : s_mok s_e242 = true := by decide +kernel
set_option maxRecDepth 100000 in
theorem s_mok_e243 : s_mok s_e243 = true := by decide +kernel
set_option maxRecDepth 100000 in
theorem s_mok_e244 : s_mok s_e244 = true := by decide +kernel
set_option maxRecDepth 100000 in
theorem s_mok_e245 : s_mok s_e245 = true := by decide +kernel
set_option maxRecDepth 100000 in
theorem s_mok_e246 : s_mok s_e246 = true := by decide +kernel
set_option maxRecDepth 100000 in
theorem s_mok_e247 : s_mok s_e247 = true := by decide +kernel
set_option maxRecDepth 100000 in
theorem s_mok_e248 : s_mok s_e248 = true := by decide +kernel
set_option maxRecDepth 100000 in
theorem s_mok_e249 : s_mok s_e249 = true := by decide +kernel
end
section
set_option maxRecDepth 100000 in
theorem s_mok_e250 : s_mok s_e250 = true := by decide +kernel
set_option maxRecDepth 100000 in
theorem s_mok_e251 : s_mok s_e251 = true := by decide +kernel
set_option maxRecDepth 100000 in
theorem s_mok_e252 : s_mok s_e252 = true := by decide +kernel
set_option maxRecDepth 100000 in
theorem s_mok_e253 : s_mok s_e253 = true := by decide +kernel
set_option maxRecDepth 100000 in
theorem s_mok_e254 : s_mok s_e254 = true := by decide +kernel
set_option maxRecDepth 100000 in
theorem s_mok_e255 : s_mok s_e255 = true := by decide +kernel
set_option maxRecDepth 100000 in
theorem s_mok_e256 : s_mok s_e256 = true := by decide +kernel
set_option maxRecDepth 100000 in
theorem s_mok_e257 : s_mok s_e257 = true := by decide +kernel
set_option maxRecDepth 100000 in
theorem s_mok_e258 : s_mok s_e258 = true := by decide +kernel
set_option maxRecDepth 100000 in
theorem s_mok_e259 : s_mok s_e259 = true := by decide +kernel
set_option maxRecDepth 100000 in
theorem s_mok_e260 : s_mok s_e260 = true := by decide +kernel
set_option maxRecDepth 100000 in
theorem s_mok_e261 : s_mok s_e261 = true := by decide +kernel
set_option maxRecDepth 100000 in
theorem s_mok_e262 : s_mok s_e262 = true := by decide +kernel
set_option maxRecDepth 100000 in
theorem s_mok_e263 : s_mok s_e263 = true := by decide +kernel
set_option maxRecDepth 100000 in
theorem s_mok_e264 : s_mok s_e264 = true := by decide +kernel
set_option maxRecDepth 100000 in
theorem s_mok_e265 : s_mok s_e265 = true := by decide +kernel
set_option maxRecDepth 100000 in
theorem s_mok_e266 : s_mok s_e266 = true := by decide +kernel
set_option maxRecDepth 100000 in
theorem s_mok_e267 : s_mok s_e267 = true := by decide +kernel
set_option maxRecDepth 100000 in
theorem s_mok_e268 : s_mok s_e268 = true := by decide +kernel
set_option maxRecDepth 100000 in
theorem s_mok_e269 : s_mok s_e269 = true := by decide +kernel
set_option maxRecDepth 100000 in
theorem s_mok_e270 : s_mok s_e270 = true := by decide +kernel
set_option maxRecDepth 100000 in
theorem s_mok_e271 : s_mok s_e271 = true := by decide +kernel
set_option maxRecDepth 100000 in
theorem s_mok_e272 : s_mok s_e272 = true := by decide +kernel
set_option maxRecDepth 100000 in
theorem s_mok_e273 : s_mok s_e273 = true := by decide +kernel
set_option maxRecDepth 100000 in
theorem s_mok_e274 : s_mok s_e274 = true := by decide +kernel
set_option maxRecDepth 100000 in
theorem s_mok_e275 : s_mok s_e275 = true := by decide +kernel
set_option maxRecDepth 100000 in
theorem s_mok_e276 : s_mok s_e276 = true := by decide +kernel
set_option maxRecDepth 100000 in
theorem s_mok_e277 : s_mok s_e277 = true := by decide +kernel
set_option maxRecDepth 100000 in
theorem s_mok_e278 : s_mok s_e278 = true := by decide +kernel
set_option maxRecDepth 100000 in
theorem s_mok_e279 : s_mok s_e279 = true := by decide +kernel
set_option maxRecDepth 100000 in
theorem s_mok_e280 : s_mok s_e280 = true := by decide +kernel
set_option maxRecDepth 100000 in
theorem s_mok_e281 : s_mok s_e281 = true := by decide +kernel
set_option maxRecDepth 100000 in
theorem s_mok_e282 : s_mok s_e282 = true := by decide +kernel
set_option maxRecDepth 100000 in
theorem s_mok_e283 : s_mok s_e283 = true := by decide +kernel
set_option maxRecDepth 100000 in
theorem s_mok_e284 : s_mok s_e284 = true := by decide +kernel
set_option maxRecDepth 100000 in
theorem s_mok_e285 : s_mok s_e285 = true := by decide +kernel
set_option maxRecDepth 100000 in
theorem s_mok_e286 : s_mok s_e286 = true := by decide +kernel
set_option maxRecDepth 100000 in
theorem s_mok_e287 : s_mok s_e287 = true := by decide +kernel
set_option maxRecDepth 100000 in
theorem s_mok_e288 : s_mok s_e288 = true := by decide +kernel
set_option maxRecDepth 100000 in
theorem s_mok_e289 : s_mok s_e289 = true := by decide +kernel
set_option maxRecDepth 100000 in
theorem s_mok_e290 : s_mok s_e290 = true := by decide +kernel
end
section
theorem s_mokr0 : ∀ e ∈ [s_e1, s_e1, s_e2, s_e3, s_e4, s_e5, s_e6, s_e7, s_e8, s_e9, s_e10, s_e11, s_e12, s_e13, s_e14, s_e15], s_mok e = true := List.forall_mem_cons.mpr ⟨s_mok_e1, List.forall_mem_cons.mpr ⟨s_mok_e1, List.forall_mem_cons.mpr ⟨s_mok_e2, List.forall_mem_cons.mpr ⟨s_mok_e3, List.forall_mem_cons.mpr ⟨s_mok_e4, List.forall_mem_cons.mpr ⟨s_mok_e5, List.forall_mem_cons.mpr ⟨s_mok_e6, List.forall_mem_cons.mpr ⟨s_mok_e7, List.forall_mem_cons.mpr ⟨s_mok_e8, List.forall_mem_cons.mpr ⟨s_mok_e9, List.forall_mem_cons.mpr ⟨s_mok_e10, List.forall_mem_cons.mpr ⟨s_mok_e11, List.forall_mem_cons.mpr ⟨s_mok_e12, List.forall_mem_cons.mpr ⟨s_mok_e13, List.forall_mem_cons.mpr ⟨s_mok_e14, List.forall_mem_cons.mpr ⟨s_mok_e15, fun _ h => absurd h List.not_mem_nil⟩⟩⟩⟩⟩⟩⟩⟩⟩⟩⟩⟩⟩⟩⟩⟩
theorem s_mokr1 : ∀ e ∈ [s_e16, s_e17, s_e18, s_e19, s_e20, s_e21, s_e22, s_e23, s_e24, s_e25, s_e26, s_e27, s_e28, s_e29, s_e30, s_e31], s_mok e = true := List.forall_mem_cons.mpr ⟨s_mok_e16, List.forall_mem_cons.mpr ⟨s_mok_e17, List.forall_mem_cons.mpr ⟨s_mok_e18, List.forall_mem_cons.mpr ⟨s_mok_e19, List.forall_mem_cons.mpr ⟨s_mok_e20, List.forall_mem_cons.mpr ⟨s_mok_e21, List.forall_mem_cons.mpr ⟨s_mok_e22, List.forall_mem_cons.mpr ⟨s_mok_e23, List.forall_mem_cons.mpr ⟨s_mok_e24, List.forall_mem_cons.mpr ⟨s_mok_e25, List.forall_mem_cons.mpr ⟨s_mok_e26, List.forall_mem_cons.mpr ⟨s_mok_e27, List.forall_mem_cons.mpr ⟨s_mok_e28, List.forall_mem_cons.mpr ⟨s_mok_e29, List.forall_mem_cons.mpr ⟨s_mok_e30, List.forall_mem_cons.mpr ⟨s_mok_e31, fun _ h => absurd h List.not_mem_nil⟩⟩⟩⟩⟩⟩⟩⟩⟩⟩⟩⟩⟩⟩⟩⟩
theorem s_mokr2 : ∀ e ∈ [s_e32, s_e33, s_e34, s_e35, s_e36, s_e37, s_e38, s_e39, s_e40, s_e41, s_e42, s_e43, s_e44, s_e45, s_e46, s_e47], s_mok e = true := List.forall_mem_cons.mpr ⟨s_mok_e32, List.forall_mem_cons.mpr ⟨s_mok_e33, List.forall_mem_cons.mpr ⟨s_mok_e34, List.forall_mem_cons.mpr ⟨s_mok_e35, List.forall_mem_cons.mpr ⟨s_mok_e36, List.forall_mem_cons.mpr ⟨s_mok_e37, List.forall_mem_cons.mpr ⟨s_mok_e38, List.forall_mem_cons.mpr ⟨s_mok_e39, List.forall_mem_cons.mpr ⟨s_mok_e40, List.forall_mem_cons.mpr ⟨s_mok_e41, List.forall_mem_cons.mpr ⟨s_mok_e42, List.forall_mem_cons.mpr ⟨s_mok_e43, List.forall_mem_cons.mpr ⟨s_mok_e44, List.forall_mem_cons.mpr ⟨s_mok_e45, List.forall_mem_cons.mpr ⟨s_mok_e46, List.forall_mem_cons.mpr ⟨s_mok_e47, fun _ h => absurd h List.not_mem_nil⟩⟩⟩⟩⟩⟩⟩⟩⟩⟩⟩⟩⟩⟩⟩⟩
theorem s_mokr3 : ∀ e ∈ [s_e48, s_e49, s_e50, s_e51, s_e52, s_e53, s_e54, s_e55, s_e56, s_e57, s_e58, s_e59, s_e60, s_e61, s_e62, s_e63], s_mok e = true := List.forall_mem_cons.mpr ⟨s_mok_e48, List.forall_mem_cons.mpr ⟨s_mok_e49, List.forall_mem_cons.mpr ⟨s_mok_e50, List.forall_mem_cons.mpr ⟨s_mok_e51, List.forall_mem_cons.mpr ⟨s_mok_e52, List.forall_mem_cons.mpr ⟨s_mok_e53, List.forall_mem_cons.mpr ⟨s_mok_e54, List.forall_mem_cons.mpr ⟨s_mok_e55, List.forall_mem_cons.mpr ⟨s_mok_e56, List.forall_mem_cons.mpr ⟨s_mok_e57, List.forall_mem_cons.mpr ⟨s_mok_e58, List.forall_mem_cons.mpr ⟨s_mok_e59, List.forall_mem_cons.mpr ⟨s_mok_e60, List.forall_mem_cons.mpr ⟨s_mok_e61, List.forall_mem_cons.mpr ⟨s_mok_e62, List.forall_mem_cons.mpr ⟨s_mok_e63, fun _ h => absurd h List.not_mem_nil⟩⟩⟩⟩⟩⟩⟩⟩⟩⟩⟩⟩⟩⟩⟩⟩
theorem s_mokr4 : ∀ e ∈ [s_e64, s_e65, s_e66, s_e67, s_e68, s_e69, s_e70, s_e71, s_e72, s_e73, s_e74, s_e75, s_e76, s_e77, s_e78, s_e79], s_mok e = true := List.forall_mem_cons.mpr ⟨s_mok_e64, List.forall_mem_cons.mpr ⟨s_mok_e65, List.forall_mem_cons.mpr ⟨s_mok_e66, List.forall_mem_cons.mpr ⟨s_mok_e67, List.forall_mem_cons.mpr ⟨s_mok_e68, List.forall_mem_cons.mpr ⟨s_mok_e69, List.forall_mem_cons.mpr ⟨s_mok_e70, List.forall_mem_cons.mpr ⟨s_mok_e71, List.forall_mem_cons.mpr ⟨s_mok_e72, List.forall_mem_cons.mpr ⟨s_mok_e73, List.forall_mem_cons.mpr ⟨s_mok_e74, List.forall_mem_cons.mpr ⟨s_mok_e75, List.forall_mem_cons.mpr ⟨s_mok_e76, List.forall_mem_cons.mpr ⟨s_mok_e77, List.forall_mem_cons.mpr ⟨s_mok_e78, List.forall_mem_cons.mpr ⟨s_mok_e79, fun _ h => absurd h List.not_mem_nil⟩⟩⟩⟩⟩⟩⟩⟩⟩⟩⟩⟩⟩⟩⟩⟩
theorem s_mokr5 : ∀ e ∈ [s_e80, s_e81, s_e82, s_e83, s_e84, s_e85, s_e86, s_e87, s_e88, s_e89, s_e90, s_e91, s_e92, s_e93, s_e94, s_e95], s_mok e = true := List.forall_mem_cons.mpr ⟨s_mok_e80, List.forall_mem_cons.mpr ⟨s_mok_e81, List.forall_mem_cons.mpr ⟨s_mok_e82, List.forall_mem_cons.mpr ⟨s_mok_e83, List.forall_mem_cons.mpr ⟨s_mok_e84, List.forall_mem_cons.mpr ⟨s_mok_e85, List.forall_mem_cons.mpr ⟨s_mok_e86, List.forall_mem_cons.mpr ⟨s_mok_e87, List.forall_mem_cons.mpr ⟨s_mok_e88, List.forall_mem_cons.mpr ⟨s_mok_e89, List.forall_mem_cons.mpr ⟨s_mok_e90, List.forall_mem_cons.mpr ⟨s_mok_e91, List.forall_mem_cons.mpr ⟨s_mok_e92, List.forall_mem_cons.mpr ⟨s_mok_e93, List.forall_mem_cons.mpr ⟨s_mok_e94, List.forall_mem_cons.mpr ⟨s_mok_e95, fun _ h => absurd h List.not_mem_nil⟩⟩⟩⟩⟩⟩⟩⟩⟩⟩⟩⟩⟩⟩⟩⟩
theorem s_mokr6 : ∀ e ∈ [s_e96, s_e97, s_e98, s_e99, s_e100, s_e101, s_e102, s_e103, s_e104, s_e105, s_e106, s_e107, s_e108, s_e109, s_e110, s_e111], s_mok e = true := List.forall_mem_cons.mpr ⟨s_mok_e96, List.forall_mem_cons.mpr ⟨s_mok_e97, List.forall_mem_cons.mpr ⟨s_mok_e98, List.forall_mem_cons.mpr ⟨s_mok_e99, List.forall_mem_cons.mpr ⟨s_mok_e100, List.forall_mem_cons.mpr ⟨s_mok_e101, List.forall_mem_cons.mpr ⟨s_mok_e102, List.forall_mem_cons.mpr ⟨s_mok_e103, List.forall_mem_cons.mpr ⟨s_mok_e104, List.forall_mem_cons.mpr ⟨s_mok_e105, List.forall_mem_cons.mpr ⟨s_mok_e106, List.forall_mem_cons.mpr ⟨s_mok_e107, List.forall_mem_cons.mpr ⟨s_mok_e108, List.forall_mem_cons.mpr ⟨s_mok_e109, List.forall_mem_cons.mpr ⟨s_mok_e110, List.forall_mem_cons.mpr ⟨s_mok_e111, fun _ h => absurd h List.not_mem_nil⟩⟩⟩⟩⟩⟩⟩⟩⟩⟩⟩⟩⟩⟩⟩⟩
theorem s_mokr7 : ∀ e ∈ [s_e112, s_e113, s_e114, s_e115, s_e116, s_e117, s_e118, s_e119, s_e120, s_e121, s_e122, s_e123, s_e124, s_e125, s_e126, s_e127], s_mok e = true := List.forall_mem_cons.mpr ⟨s_mok_e112, List.forall_mem_cons.mpr ⟨s_mok_e113, List.forall_mem_cons.mpr ⟨s_mok_e114, List.forall_mem_cons.mpr ⟨s_mok_e115, List.forall_mem_cons.mpr ⟨s_mok_e116, List.forall_mem_cons.mpr ⟨s_mok_e117, List.forall_mem_cons.mpr ⟨s_mok_e118, List.forall_mem_cons.mpr ⟨s_mok_e119, List.forall_mem_cons.mpr ⟨s_mok_e120, List.forall_mem_cons.mpr ⟨s_mok_e121, List.forall_mem_cons.mpr ⟨s_mok_e122, List.forall_mem_cons.mpr ⟨s_mok_e123, List.forall_mem_cons.mpr ⟨s_mok_e124, List.forall_mem_cons.mpr ⟨s_mok_e125, List.forall_mem_cons.mpr ⟨s_mok_e126, List.forall_mem_cons.mpr ⟨s_mok_e127, fun _ h => absurd h List.not_mem_nil⟩⟩⟩⟩⟩⟩⟩⟩⟩⟩⟩⟩⟩⟩⟩⟩
theorem s_mokr8 : ∀ e ∈ [s_e128, s_e129, s_e130, s_e131, s_e132, s_e133, s_e134, s_e135, s_e136, s_e137, s_e138, s_e139, s_e140, s_e141, s_e142, s_e143], s_mok e = true := List.forall_mem_cons.mpr ⟨s_mok_e128, List.forall_mem_cons.mpr ⟨s_mok_e129, List.forall_mem_cons.mpr ⟨s_mok_e130, List.forall_mem_cons.mpr ⟨s_mok_e131, List.forall_mem_cons.mpr ⟨s_mok_e132, List.forall_mem_cons.mpr ⟨s_mok_e133, List.forall_mem_cons.mpr ⟨s_mok_e134, List.forall_mem_cons.mpr ⟨s_mok_e135, List.forall_mem_cons.mpr ⟨s_mok_e136, List.forall_mem_cons.mpr ⟨s_mok_e137, List.forall_mem_cons.mpr ⟨s_mok_e138, List.forall_mem_cons.mpr ⟨s_mok_e139, List.forall_mem_cons.mpr ⟨s_mok_e140, List.forall_mem_cons.mpr ⟨s_mok_e141, List.forall_mem_cons.mpr ⟨s_mok_e142, List.forall_mem_cons.mpr ⟨s_mok_e143, fun _ h => absurd h List.not_mem_nil⟩⟩⟩⟩⟩⟩⟩⟩⟩⟩⟩⟩⟩⟩⟩⟩
theorem s_mokr9 : ∀ e ∈ [s_e144, s_e145, s_e146, s_e147, s_e148, s_e149, s_e150, s_e151, s_e152, s_e153, s_e154, s_e155, s_e156, s_e157, s_e158, s_e159], s_mok e = true := List.forall_mem_cons.mpr ⟨s_mok_e144, List.forall_mem_cons.mpr ⟨s_mok_e145, List.forall_mem_cons.mpr ⟨s_mok_e146, List.forall_mem_cons.mpr ⟨s_mok_e147, List.forall_mem_cons.mpr ⟨s_mok_e148, List.forall_mem_cons.mpr ⟨s_mok_e149, List.forall_mem_cons.mpr ⟨s_mok_e150, List.forall_mem_cons.mpr ⟨s_mok_e151, List.forall_mem_cons.mpr ⟨s_mok_e152, List.forall_mem_cons.mpr ⟨s_mok_e153, List.forall_mem_cons.mpr ⟨s_mok_e154, List.forall_mem_cons.mpr ⟨s_mok_e155, List.forall_mem_cons.mpr ⟨s_mok_e156, List.forall_mem_cons.mpr ⟨s_mok_e157, List.forall_mem_cons.mpr ⟨s_mok_e158, List.forall_mem_cons.mpr ⟨s_mok_e159, fun _ h => absurd h List.not_mem_nil⟩⟩⟩⟩⟩⟩⟩⟩⟩⟩⟩⟩⟩⟩⟩⟩
theorem s_mokr10 : ∀ e ∈ [s_e160, s_e161, s_e162, s_e163, s_e164, s_e165, s_e166, s_e167, s_e168, s_e169, s_e170, s_e171, s_e172, s_e173, s_e174, s_e175], s_mok e = true := List.forall_mem_cons.mpr ⟨s_mok_e160, List.forall_mem_cons.mpr ⟨s_mok_e161, List.forall_mem_cons.mpr ⟨s_mok_e162, List.forall_mem_cons.mpr ⟨s_mok_e163, List.forall_mem_cons.mpr ⟨s_mok_e164, List.forall_mem_cons.mpr ⟨s_mok_e165, List.forall_mem_cons.mpr ⟨s_mok_e166, List.forall_mem_cons.mpr ⟨s_mok_e167, List.forall_mem_cons.mpr ⟨s_mok_e168, List.forall_mem_cons.mpr ⟨s_mok_e169, List.forall_mem_cons.mpr ⟨s_mok_e170, List.forall_mem_cons.mpr ⟨s_mok_e171, List.forall_mem_cons.mpr ⟨s_mok_e172, List.forall_mem_cons.mpr ⟨s_mok_e173, List.forall_mem_cons.mpr ⟨s_mok_e174, List.forall_mem_cons.mpr ⟨s_mok_e175, fun _ h => absurd h List.not_mem_nil⟩⟩⟩⟩⟩⟩⟩⟩⟩⟩⟩⟩⟩⟩⟩⟩
theorem s_mokr11 : ∀ e ∈ [s_e176, s_e177, s_e178, s_e179, s_e180, s_e181, s_e182, s_e183, s_e184, s_e185, s_e186, s_e187, s_e188, s_e189, s_e190, s_e191], s_mok e = true := List.forall_mem_cons.mpr ⟨s_mok_e176, List.forall_mem_cons.mpr ⟨s_mok_e177, List.forall_mem_cons.mpr ⟨s_mok_e178, List.forall_mem_cons.mpr ⟨s_mok_e179, List.forall_mem_cons.mpr ⟨s_mok_e180, List.forall_mem_cons.mpr ⟨s_mok_e181, List.forall_mem_cons.mpr ⟨s_mok_e182, List.forall_mem_cons.mpr ⟨s_mok_e183, List.forall_mem_cons.mpr ⟨s_mok_e184, List.forall_mem_cons.mpr ⟨s_mok_e185, List.forall_mem_cons.mpr ⟨s_mok_e186, List.forall_mem_cons.mpr ⟨s_mok_e187, List.forall_mem_cons.mpr ⟨s_mok_e188, List.forall_mem_cons.mpr ⟨s_mok_e189, List.forall_mem_cons.mpr ⟨s_mok_e190, List.forall_mem_cons.mpr ⟨s_mok_e191, fun _ h => absurd h List.not_mem_nil⟩⟩⟩⟩⟩⟩⟩⟩⟩⟩⟩⟩⟩⟩⟩⟩
theorem s_mokr12 : ∀ e ∈ [s_e192, s_e193, s_e194, s_e195, s_e196, s_e197, s_e198, s_e199, s_e200, s_e201, s_e202, s_e203, s_e204, s_e205, s_e206, s_e207], s_mok e = true := List.forall_mem_cons.mpr ⟨s_mok_e192, List.forall_mem_cons.mpr ⟨s_mok_e193, List.forall_mem_cons.mpr ⟨s_mok_e194, List.forall_mem_cons.mpr ⟨s_mok_e195, List.forall_mem_cons.mpr ⟨s_mok_e196, List.forall_mem_cons.mpr ⟨s_mok_e197, List.forall_mem_cons.mpr ⟨s_mok_e198, List.forall_mem_cons.mpr ⟨s_mok_e199, List.forall_mem_cons.mpr ⟨s_mok_e200, List.forall_mem_cons.mpr ⟨s_mok_e201, List.forall_mem_cons.mpr ⟨s_mok_e202, List.forall_mem_cons.mpr ⟨s_mok_e203, List.forall_mem_cons.mpr ⟨s_mok_e204, List.forall_mem_cons.mpr ⟨s_mok_e205, List.forall_mem_cons.mpr ⟨s_mok_e206, List.forall_mem_cons.mpr ⟨s_mok_e207, fun _ h => absurd h List.not_mem_nil⟩⟩⟩⟩⟩⟩⟩⟩⟩⟩⟩⟩⟩⟩⟩⟩
theorem s_mokr13 : ∀ e ∈ [s_e208, s_e209, s_e210, s_e211, s_e212, s_e213, s_e214, s_e215, s_e216, s_e217, s_e218, s_e219, s_e220, s_e221, s_e222, s_e223], s_mok e = true := List.forall_mem_cons.mpr ⟨s_mok_e208, List.forall_mem_cons.mpr ⟨s_mok_e209, List.forall_mem_cons.mpr ⟨s_mok_e210, List.forall_mem_cons.mpr ⟨s_mok_e211, List.forall_mem_cons.mpr ⟨s_mok_e212, List.forall_mem_cons.mpr ⟨s_mok_e213, List.forall_mem_cons.mpr ⟨s_mok_e214, List.forall_mem_cons.mpr ⟨s_mok_e215, List.forall_mem_cons.mpr ⟨s_mok_e216, List.forall_mem_cons.mpr ⟨s_mok_e217, List.forall_mem_cons.mpr ⟨s_mok_e218, List.forall_mem_cons.mpr ⟨s_mok_e219, List.forall_mem_cons.mpr ⟨s_mok_e220, List.forall_mem_cons.mpr ⟨s_mok_e221, List.forall_mem_cons.mpr ⟨s_mok_e222, List.forall_mem_cons.mpr ⟨s_mok_e223, fun _ h => absurd h List.not_mem_nil⟩⟩⟩⟩⟩⟩⟩⟩⟩⟩⟩⟩⟩⟩⟩⟩
theorem s_mokr14 : ∀ e ∈ [s_e224, s_e225, s_e226, s_e227, s_e228, s_e229, s_e230, s_e231, s_e232, s_e233, s_e234, s_e235, s_e236, s_e237, s_e238, s_e239], s_mok e = true := List.forall_mem_cons.mpr ⟨s_mok_e224, List.forall_mem_cons.mpr ⟨s_mok_e225, List.forall_mem_cons.mpr ⟨s_mok_e226, List.forall_mem_cons.mpr ⟨s_mok_e227, List.forall_mem_cons.mpr ⟨s_mok_e228, List.forall_mem_cons.mpr ⟨s_mok_e229, List.forall_mem_cons.mpr ⟨s_mok_e230, List.forall_mem_cons.mpr ⟨s_mok_e231, List.forall_mem_cons.mpr ⟨s_mok_e232, List.forall_mem_cons.mpr ⟨s_mok_e233, List.forall_mem_cons.mpr ⟨s_mok_e234, List.forall_mem_cons.mpr ⟨s_mok_e235, List.forall_mem_cons.mpr ⟨s_mok_e236, List.forall_mem_cons.mpr ⟨s_mok_e237, List.forall_mem_cons.mpr ⟨s_mok_e238, List.forall_mem_cons.mpr ⟨s_mok_e239, fun _ h => absurd h List.not_mem_nil⟩⟩⟩⟩⟩⟩⟩⟩⟩⟩⟩⟩⟩⟩⟩⟩
theorem s_mokr15 : ∀ e ∈ [s_e240, s_e241, s_e242, s_e243, s_e244, s_e245, s_e246, s_e247, s_e248, s_e249, s_e250, s_e251, s_e252, s_e253, s_e254, s_e255], s_mok e = true := List.forall_mem_cons.mpr ⟨s_mok_e240, List.forall_mem_cons.mpr ⟨s_mok_e241, List.forall_mem_cons.mpr ⟨s_mok_e242, List.forall_mem_cons.mpr ⟨s_mok_e243, List.forall_mem_cons.mpr ⟨s_mok_e244, List.forall_mem_cons.mpr ⟨s_mok_e245, List.forall_mem_cons.mpr ⟨s_mok_e246, List.forall_mem_cons.mpr ⟨s_mok_e247, List.forall_mem_cons.mpr ⟨s_mok_e248, List.forall_mem_cons.mpr ⟨s_mok_e249, List.forall_mem_cons.mpr ⟨s_mok_e250, List.forall_mem_cons.mpr ⟨s_mok_e251, List.forall_mem_cons.mpr ⟨s_mok_e252, List.forall_mem_cons.mpr ⟨s_mok_e253, List.forall_mem_cons.mpr ⟨s_mok_e254, List.forall_mem_cons.mpr ⟨s_mok_e255, fun _ h => absurd h List.not_mem_nil⟩⟩⟩⟩⟩⟩⟩⟩⟩⟩⟩⟩⟩⟩⟩⟩
theorem s_mokr16 : ∀ e ∈ [s_e256, s_e257, s_e258, s_e259, s_e260, s_e261, s_e262, s_e263, s_e264, s_e265, s_e266, s_e267, s_e268, s_e269, s_e270, s_e271], s_mok e = true := List.forall_mem_cons.mpr ⟨s_mok_e256, List.forall_mem_cons.mpr ⟨s_mok_e257, List.forall_mem_cons.mpr ⟨s_mok_e258, List.forall_mem_cons.mpr ⟨s_mok_e259, List.forall_mem_cons.mpr ⟨s_mok_e260, List.forall_mem_cons.mpr ⟨s_mok_e261, List.forall_mem_cons.mpr ⟨s_mok_e262, List.forall_mem_cons.mpr ⟨s_mok_e263, List.forall_mem_cons.mpr ⟨s_mok_e264, List.forall_mem_cons.mpr ⟨s_mok_e265, List.forall_mem_cons.mpr ⟨s_mok_e266, List.forall_mem_cons.mpr ⟨s_mok_e267, List.forall_mem_cons.mpr ⟨s_mok_e268, List.forall_mem_cons.mpr ⟨s_mok_e269, List.forall_mem_cons.mpr ⟨s_mok_e270, List.forall_mem_cons.mpr ⟨s_mok_e271, fun _ h => absurd h List.not_mem_nil⟩⟩⟩⟩⟩⟩⟩⟩⟩⟩⟩⟩⟩⟩⟩⟩
theorem s_mokr17 : ∀ e ∈ [s_e272, s_e273, s_e274, s_e275, s_e276, s_e277, s_e278, s_e279, s_e280, s_e281, s_e282, s_e283, s_e284, s_e285, s_e286, s_e287], s_mok e = true := List.forall_mem_cons.mpr ⟨s_mok_e272, List.forall_mem_cons.mpr ⟨s_mok_e273, List.forall_mem_cons.mpr ⟨s_mok_e274, List.forall_mem_cons.mpr ⟨s_mok_e275, List.forall_mem_cons.mpr ⟨s_mok_e276, List.forall_mem_cons.mpr ⟨s_mok_e277, List.forall_mem_cons.mpr ⟨s_mok_e278, List.forall_mem_cons.mpr ⟨s_mok_e279, List.forall_mem_cons.mpr ⟨s_mok_e280, List.forall_mem_cons.mpr ⟨s_mok_e281, List.forall_mem_cons.mpr ⟨s_mok_e282, List.forall_mem_cons.mpr ⟨s_mok_e283, List.forall_mem_cons.mpr ⟨s_mok_e284, List.forall_mem_cons.mpr ⟨s_mok_e285, List.forall_mem_cons.mpr ⟨s_mok_e286, List.forall_mem_cons.mpr ⟨s_mok_e287, fun _ h => absurd h List.not_mem_nil⟩⟩⟩⟩⟩⟩⟩⟩⟩⟩⟩⟩⟩⟩⟩⟩
theorem s_mokr18 : ∀ e ∈ [s_e288, s_e289, s_e290], s_mok e = true := List.forall_mem_cons.mpr ⟨s_mok_e288, List.forall_mem_cons.mpr ⟨s_mok_e289, List.forall_mem_cons.mpr ⟨s_mok_e290, fun _ h => absurd h List.not_mem_nil⟩⟩⟩
theorem s_mok_all : ∀ l ∈ s_ents, ∀ e ∈ l, s_mok e = true := List.forall_mem_cons.mpr ⟨s_mokr0, List.forall_mem_cons.mpr ⟨s_mokr1, List.forall_mem_cons.mpr ⟨s_mokr2, List.forall_mem_cons.mpr ⟨s_mokr3, List.forall_mem_cons.mpr ⟨s_mokr4, List.forall_mem_cons.mpr ⟨s_mokr5, List.forall_mem_cons.mpr ⟨s_mokr6, List.forall_mem_cons.mpr ⟨s_mokr7, List.forall_mem_cons.mpr ⟨s_mokr8, List.forall_mem_cons.mpr ⟨s_mokr9, List.forall_mem_cons.mpr ⟨s_mokr10, List.forall_mem_cons.mpr ⟨s_mokr11, List.forall_mem_cons.mpr ⟨s_mokr12, List.forall_mem_cons.mpr ⟨s_mokr13, List.forall_mem_cons.mpr ⟨s_mokr14, List.forall_mem_cons.mpr ⟨s_mokr15, List.forall_mem_cons.mpr ⟨s_mokr16, List.forall_mem_cons.mpr ⟨s_mokr17, List.forall_mem_cons.mpr ⟨s_mokr18, fun _ h => absurd h List.not_mem_nil⟩⟩⟩⟩⟩⟩⟩⟩⟩⟩⟩⟩⟩⟩⟩⟩⟩⟩⟩
theorem s_ent_ok {z : Nat} {e : sMeth × sMT} (h : s_ent z = some e) : s_mok e = true := by
  unfold s_ent at h
  split at h
  · rename_i l hl
    exact s_mok_all l (List.mem_of_getElem? hl) e (List.mem_of_getElem? h)
  · cases h
end
section
/-! THE IMAGE of the small machine's cells in the machine's heap: place i of the list lies at address α i; the read-only rows lie at tt j. -/
def s_tr (tt α : Nat → Nat) : Value → Value
  | .ref a => .ref (α a)
  | .retAddr j => .ref (tt j)
  | v => v
theorem s_tr_cat (tt α : Nat → Nat) (v : Value) : (s_tr tt α v).category = v.category := by cases v <;> rfl
def s_trl (tt α : Nat → Nat) (l : sL) : List (Nat × Value) := l.map (fun q => (q.1, s_tr tt α q.2))
def s_iv (vs : List Value) (j : Nat) : Int32 := match vs[j]? with
  | some (.int x) => x
  | _ => 0
def s_lv (vs : List Value) (j : Nat) : Int64 := match vs[j]? with
  | some (.long x) => x
  | _ => 0
def s_qv (α : Nat → Nat) (vs : List Value) (j : Nat) : Option Nat := match vs[j]? with
  | some (.ref a) => some (α a)
  | _ => none
def s_arr (α : Nat → Nat) (k : Nat) (vs : List Value) : vp_A := (vs.length, if k = 14 then .inr (.inl (s_lv vs)) else if k < 17 then .inl (s_iv vs) else .inr (.inr (.inr (.inr (s_qv α vs)))))
def s_im (cy : Nat → ClassId) (tt α : Nat → Nat) (c : sC) : va_E := if c.1 < 12 then .inr (c.1, c.2.map (s_tr tt α)) else .inl (cy c.1, s_arr α c.1 c.2)
def s_img (cy : Nat → ClassId) (tt α : Nat → Nat) (M : sM) : va_W := M.mapIdx (fun i c => (α i, s_im cy tt α c))
def s_up (α : Nat → Nat) (n q : Nat) : Nat → Nat := fun i => if i = n then q else α i
theorem s_img_at {cy : Nat → ClassId} {tt α : Nat → Nat} {M : sM} {a : Nat} {c : sC} (h : M[a]? = some c) : (s_img cy tt α M)[a]? = some (α a, s_im cy tt α c) := by
  simp [s_img, List.getElem?_mapIdx, h]
theorem s_img_set {cy : Nat → ClassId} {tt α : Nat → Nat} {M : sM} {a : Nat} {c : sC} : (s_img cy tt α M).set a (α a, s_im cy tt α c) = s_img cy tt α (M.set a c) := by
  apply List.ext_getElem?
  intro i
  simp only [s_img, List.getElem?_set, List.getElem?_mapIdx, List.length_mapIdx]
  by_cases h : a = i
  · subst h
    by_cases h2 : a < M.length <;> simp [h2]
  · simp [h]
/-- references lie within n cells -/
def s_vok (n : Nat) (v : Value) : Prop := ∀ a, v = .ref a → a < n
def s_lok (n : Nat) (l : List Value) : Prop := ∀ v ∈ l, s_vok n v
def s_sok (n : Nat) (l : sL) : Prop := ∀ q ∈ l, s_vok n q.2
def s_Mok (n : Nat) (M : sM) : Prop := ∀ c ∈ M, s_lok n c.2
theorem s_vok_i {n : Nat} {x : Int32} : s_vok n (.int x) := fun _ h => by cases h
theorem s_vok_l {n : Nat} {x : Int64} : s_vok n (.long x) := fun _ h => by cases h
theorem s_vok_n {n : Nat} : s_vok n .null := fun _ h => by cases h
theorem s_vok_t {n j : Nat} : s_vok n (.retAddr j) := fun _ h => by cases h
theorem s_vok_r {n a : Nat} (h : a < n) : s_vok n (.ref a) := fun _ e => by cases e; exact h
theorem s_vok_le {n k : Nat} {v : Value} (h : n ≤ k) (hv : s_vok n v) : s_vok k v := fun a e => Nat.lt_of_lt_of_le (hv a e) h
theorem s_lok_le {n k : Nat} {v : List Value} (h : n ≤ k) (hv : s_lok n v) : s_lok k v := fun a e => s_vok_le h (hv a e)
theorem s_sok_le {n k : Nat} {v : sL} (h : n ≤ k) (hv : s_sok n v) : s_sok k v := fun a e => s_vok_le h (hv a e)
theorem s_Mok_le {n k : Nat} {v : sM} (h : n ≤ k) (hv : s_Mok n v) : s_Mok k v := fun a e => s_lok_le h (hv a e)
theorem s_lok_c {n : Nat} {v : Value} {l : List Value} : s_lok n (v :: l) ↔ s_vok n v ∧ s_lok n l := List.forall_mem_cons
theorem s_lok_nil {n : Nat} : s_lok n [] := fun _ h => by cases h
theorem s_lok_app {n : Nat} {a b : List Value} (ha : s_lok n a) (hb : s_lok n b) : s_lok n (a ++ b) := fun v h => (List.mem_append.mp h).elim (ha v) (hb v)
theorem s_tr_eq {tt α β : Nat → Nat} {n : Nat} {v : Value} (h : ∀ i, i < n → β i = α i) (hv : s_vok n v) : s_tr tt β v = s_tr tt α v := by
  cases v <;> first | rfl | exact congrArg Value.ref (h _ (hv _ rfl))
theorem s_trs_eq {tt α β : Nat → Nat} {n : Nat} {l : List Value} (h : ∀ i, i < n → β i = α i) (hl : s_lok n l) : l.map (s_tr tt β) = l.map (s_tr tt α) :=
  List.map_congr_left fun v hv => s_tr_eq h (hl v hv)
theorem s_trl_eq {tt α β : Nat → Nat} {n : Nat} {l : sL} (h : ∀ i, i < n → β i = α i) (hl : s_sok n l) : s_trl tt β l = s_trl tt α l :=
  List.map_congr_left fun q hq => by rw [s_tr_eq h (hl q hq)]
theorem s_qv_eq {α β : Nat → Nat} {n : Nat} {vs : List Value} (h : ∀ i, i < n → β i = α i) (hl : s_lok n vs) : s_qv β vs = s_qv α vs := by
  funext j
  unfold s_qv
  cases hj : vs[j]? with
  | none => rfl
  | some v =>
    have := hl v (List.mem_of_getElem? hj)
    cases v <;> first | rfl | exact congrArg some (h _ (this _ rfl))
theorem s_im_eq {cy : Nat → ClassId} {tt α β : Nat → Nat} {n : Nat} {c : sC} (h : ∀ i, i < n → β i = α i) (hl : s_lok n c.2) : s_im cy tt β c = s_im cy tt α c := by
  unfold s_im s_arr
  rw [s_trs_eq h hl, s_qv_eq h hl]
theorem s_img_eq {cy : Nat → ClassId} {tt α β : Nat → Nat} {M : sM} (h : ∀ i, i < M.length → β i = α i) (hM : s_Mok M.length M) : s_img cy tt β M = s_img cy tt α M := by
  apply List.ext_getElem?
  intro i
  simp only [s_img, List.getElem?_mapIdx]
  cases hi : M[i]? with
  | none => rfl
  | some c =>
    have hlt : i < M.length := (List.getElem?_eq_some_iff.mp hi).1
    simp only [Option.map_some]
    rw [h i hlt, s_im_eq h (hM c (List.mem_of_getElem? hi))]
theorem s_up_ne {α : Nat → Nat} {n q i : Nat} (h : i < n) : s_up α n q i = α i := if_neg (Nat.ne_of_lt h)
theorem s_img_push {cy : Nat → ClassId} {tt α : Nat → Nat} {M : sM} {q : Nat} {c : sC} (hM : s_Mok M.length M) (hc : s_lok M.length c.2) : s_img cy tt α M ++ [(q, s_im cy tt α c)] = s_img cy tt (s_up α M.length q) (M ++ [c]) := by
  have e1 := s_img_eq (cy := cy) (tt := tt) (α := α) (β := s_up α M.length q) (M := M) (fun i hi => s_up_ne hi) hM
  have e2 := s_im_eq (cy := cy) (tt := tt) (α := α) (β := s_up α M.length q) (n := M.length) (c := c) (fun i hi => s_up_ne hi) hc
  rw [← e1, ← e2]
  apply List.ext_getElem?
  intro i
  simp only [s_img, List.mapIdx_append, List.length_mapIdx]
  simp [s_up]
/-! what the tables say -/
def s_G : List Cond := lw_tbl.filter goodWord
theorem s_inG {w : Cond} (h : w ∈ lw_tbl) (g : goodWord w = true) : w ∈ s_G := List.mem_filter.mpr ⟨h, g⟩
theorem s_atG {w : Cond} {i : Nat} (h : lw_tbl[i]? = some w) (g : goodWord w = true) : w ∈ s_G := s_inG (List.mem_of_getElem? h) g
abbrev s_tys (cy : Nat → ClassId) : List (ClassId × FieldType) := [(cy 12, .byte), (cy 13, .int), (cy 14, .long), (cy 15, .short), (cy 16, .boolean), (cy 17, .object RX0), (cy 18, .object RX4), (cy 19, .object RX6)]
abbrev s_nest : Cond := .methodLinkNest "OldestLaw$Shelf" 66 ⟨"OldestLaw", "isSaying", "(I)Z"⟩ "OldestLaw"
def s_Kx (D : va_G) (cy : Nat → ClassId) (U : State) : Prop := va_K D vwCl (s_tys cy) U ∧ va_AO RX0 U ∧ va_AO RX4 U ∧ va_AO RX6 U ∧ va_Nw s_nest U
theorem s_Kx.warm {D : va_G} {cy : Nat → ClassId} {s U : State} (hW : s.WarmedH U.vm) (h : s_Kx D cy s) : s_Kx D cy U :=
  ⟨va_K.moved hW.alike h.1, h.2.1.moved hW.alike, h.2.2.1.moved hW.alike, h.2.2.2.1.moved hW.alike, va_Nw.warmM hW h.2.2.2.2⟩
theorem s_Kx.same {D : va_G} {cy : Nat → ClassId} {u U : State} (h : u.vm = U.vm) (hK : s_Kx D cy u) : s_Kx D cy U :=
  ⟨va_K.moved (by rw [h]; exact Vm.Alike.refl U.vm) hK.1, hK.2.1.moved (by rw [h]; exact Vm.Alike.refl U.vm), hK.2.2.1.moved (by rw [h]; exact Vm.Alike.refl U.vm), hK.2.2.2.1.moved (by rw [h]; exact Vm.Alike.refl U.vm), va_Nw.same rfl h hK.2.2.2.2⟩
abbrev s_stn (j : Nat) : String := if j = 0 then "ABOVE" else "OWN"
def s_Tx (E : sE) (tt : Nat → Nat) (A : Nat → Prop) (U : State) (H : Heap) : Prop := (∀ j, j < 2 → va_Z "OldestLaw$Clauses" (s_stn j) "[I" (.ref (tt j)) A U H) ∧ ∀ j, j < (E 3).1 → va_T .int (tt j) (E j).1 (fun i => .int ((E j).2 i)) A U H
theorem s_Tx.go {E : sE} {tt : Nat → Nat} {A B : Nat → Prop} {s U : State} {H : Heap} {locs : List Loc} (h : s_Tx E tt A s s.heap) (hS : va_S A s.heap H locs) (hAB : ∀ q, B q → A q) (hv : s.vm.Alike U.vm) : s_Tx E tt B U H :=
  ⟨fun j hj => (((h.1 j hj).kept (fun a h1 h2 => hS.2.1 a h1 h2)).narrow hAB).moved hv, fun j hj => (((h.2 j hj).kept (fun a h1 h2 => hS.2.1 a h1 h2)).narrow hAB).moved hv⟩
/-- what is fixed while a method runs -/
def s_Fr (p : Program) (s : State) (m : MethodId) (args : Array Value) (meth : Method) (c : Code) (own : Nat) (ini : Bool) (cc : ByteArray) (mx : Nat) : Prop :=
  p.tables.exec = Jvm.exec ∧ c.code = cc ∧ c.maxLocals = mx ∧ s.vm.findClass (s_cn own) = some m.cls ∧ (∀ w ∈ s_G, w.before args s = true) ∧ (ini = true → meth.name = "<init>")
def s_Cd (own : Nat) (ini : Bool) (cc : ByteArray) (cd : sCode) : Prop := ∀ (pc : Nat) (i : sI), s_fetch cd pc = some i → ∃ r, decode cc pc = .ok (r, i.2) ∧ s_res own ini r = some i.1
theorem s_fetch_lt {cd : sCode} {pc : Nat} {i : sI} (h : s_fetch cd pc = some i) : pc < 16 * cd.length := by
  unfold s_fetch at h
  split at h
  · rename_i l hl
    have := (List.getElem?_eq_some_iff.mp hl).1
    omega
  · cases h
theorem s_Cd_of {own : Nat} {ini : Bool} {cc : ByteArray} {cd : sCode} (h : s_chk own ini cc cd = true) : s_Cd own ini cc cd := by
  intro pc i hi
  have h1 := List.all_eq_true.mp h pc (List.mem_range.mpr (s_fetch_lt hi))
  unfold s_chk1 at h1
  rw [hi] at h1
  dsimp only at h1
  split at h1
  · rename_i r hr
    rw [Bool.and_eq_true] at h1
    have e1 := of_decide_eq_true h1.1
    have e2 := of_decide_eq_true h1.2
    exact ⟨r.1, by rw [hr, ← e1], e2⟩
  · cases h1
theorem s_look_mem {t : List (Nat × (Nat × (Nat × Nat)))} {o i v : Nat} (h : s_look t o i = some v) : ∃ p, (o, i, v, p) ∈ t := by
  induction t with
  | nil => cases h
  | cons q r ih =>
    unfold s_look at h
    cases hb : Nat.beq q.1 o && Nat.beq q.2.1 i with
    | true =>
      rw [hb] at h
      rw [Bool.and_eq_true] at hb
      have e1 := Nat.eq_of_beq_eq_true hb.1
      have e2 := Nat.eq_of_beq_eq_true hb.2
      obtain ⟨a, b, c, d⟩ := q
      cases h
      subst e1; subst e2
      exact ⟨d, List.mem_cons_self⟩
    | false =>
      rw [hb] at h
      obtain ⟨p, hp⟩ := ih h
      exact ⟨p, List.mem_cons_of_mem _ hp⟩
def s_kF (q : Nat × (Nat × (Nat × Nat))) : Bool := match vwCl[q.2.2.1 / 64]? with
  | some c => decide (lw_tbl[q.2.2.2]? = some (.fieldLink (s_cn q.1) q.2.1 c.1 (c.2.1 (q.2.2.1 % 64)).2.1 (c.2.1 (q.2.2.1 % 64)).2.2.1)) && (decide ((c.2.1 (q.2.2.1 % 64)).1 = c.1) && decide (q.2.2.1 % 64 < c.2.2))
  | none => false
set_option maxRecDepth 100000 in
theorem s_kF_ok : s_tF.all s_kF = true := by decide +kernel
def s_kS (q : Nat × (Nat × (Nat × Nat))) : Bool := decide (lw_tbl[q.2.2.2]? = some (.fieldLink (s_cn q.1) q.2.1 "OldestLaw$Clauses" (s_stn q.2.2.1) "[I")) && decide (q.2.2.1 < 2)
set_option maxRecDepth 100000 in
theorem s_kS_ok : s_tS.all s_kS = true := by decide +kernel
def s_kV (q : Nat × (Nat × (Nat × Nat))) : Bool := match s_ent (q.2.2.1 / 8) with
  | some e => decide (lw_tbl[q.2.2.2]? = some (.methodLink (s_cn q.1) q.2.1 e.2.1.1)) && (decide (e.2.2.1.2.2.2 = q.2.2.1 % 8) && (!e.2.2.1.2.1 && !e.2.2.1.2.2.1))
  | none => false
set_option maxRecDepth 100000 in
theorem s_kV_ok : s_tV.all s_kV = true := by decide +kernel
def s_kI (q : Nat × (Nat × (Nat × Nat))) : Bool := bif Nat.beq q.2.2.1 0 then decide (lw_tbl[q.2.2.2]? = some (.methodLink (s_cn q.1) q.2.1 Lib.objectInit)) else match s_ent (q.2.2.1 / 8) with
  | some e => decide (lw_tbl[q.2.2.2]? = some (.methodLink (s_cn q.1) q.2.1 e.2.1.1)) && (decide (e.2.2.1.2.2.2 = q.2.2.1 % 8) && e.2.2.1.2.1)
  | none => false
set_option maxRecDepth 100000 in
theorem s_kI_ok : s_tI.all s_kI = true := by decide +kernel
def s_kT (q : Nat × (Nat × (Nat × Nat))) : Bool := match s_ent (q.2.2.1 / 8) with
  | some e => decide (lw_tbl[q.2.2.2]? = some (.methodLink (s_cn q.1) q.2.1 e.2.1.1)) && (decide (e.2.2.1.2.2.2 = q.2.2.1 % 8) && e.2.2.1.2.2.1)
  | none => false
set_option maxRecDepth 100000 in
theorem s_kT_ok : s_tT.all s_kT = true := by decide +kernel
def s_kH (q : Nat × (Nat × (Nat × Nat))) : Bool := match s_ent (q.2.2.1 / 8) with
  | some e => decide (s_nest = .methodLinkNest (s_cn q.1) q.2.1 e.2.1.1 "OldestLaw") && (decide (e.2.2.1.2.2.2 = q.2.2.1 % 8) && e.2.2.1.2.2.1)
  | none => false
set_option maxRecDepth 100000 in
theorem s_kH_ok : s_tH.all s_kH = true := by decide +kernel
def s_kN (q : Nat × (Nat × (Nat × Nat))) : Bool := decide (lw_tbl[q.2.2.2]? = some (.methodLink (s_cn q.1) q.2.1 (if q.2.2.1 = 0 then arraycopyName else if q.2.2.1 = 1 then Lib.Math.min.name else Lib.Math.max.name))) && decide (q.2.2.1 < 3)
set_option maxRecDepth 100000 in
theorem s_kN_ok : s_tN.all s_kN = true := by decide +kernel
def s_kC (q : Nat × (Nat × (Nat × Nat))) : Bool := match vwCl[q.2.2.1]? with
  | some c => decide (lw_tbl[q.2.2.2]? = some (.classLink (s_cn q.1) q.2.1 c.1))
  | none => false
set_option maxRecDepth 100000 in
theorem s_kC_ok : s_tC.all s_kC = true := by decide +kernel
abbrev s_ac0 (k : Nat) : String := if k = 17 then RX0 else if k = 18 then RX4 else RX6
def s_kA (q : Nat × (Nat × (Nat × Nat))) : Bool := decide (lw_tbl[q.2.2.2]? = some (.classLink (s_cn q.1) q.2.1 (s_ac0 q.2.2.1))) && decide (17 ≤ q.2.2.1 ∧ q.2.2.1 ≤ 19)
set_option maxRecDepth 100000 in
theorem s_kA_ok : s_tA.all s_kA = true := by decide +kernel
def s_kK (q : Nat × (Nat × (Nat × Nat))) : Bool := decide (lw_tbl[q.2.2.2]? = some (.constant (s_cn q.1) q.2.1 (Int32.ofNat q.2.2.1)))
set_option maxRecDepth 100000 in
theorem s_kK_ok : s_tK.all s_kK = true := by decide +kernel
def s_kL (q : Nat × (Nat × (Nat × Nat))) : Bool := decide (lw_tbl[q.2.2.2]? = some (.constantLong (s_cn q.1) q.2.1 (Int64.ofNat q.2.2.1)))
set_option maxRecDepth 100000 in
theorem s_kL_ok : s_tL.all s_kL = true := by decide +kernel
end
section
/-! ONE STEP: an instruction that writes no cell -/
def s_pl (i : Jvm.ClassFile.Instr) : Bool := match i with
  | .getfield _ | .putfield _ | .getstatic _ | .invokevirtual _ | .invokespecial _ | .invokestatic _ | .new _ | .anewarray _ | .ldc _ | .ldc_w _ | .ldc2_w _ | .putstatic _ | .invokedynamic _ | .invokeinterface _ _ => false
  | _ => true
theorem s_res_pl {o : Nat} {ini : Bool} {r i : Jvm.ClassFile.Instr} (hp : s_pl i = true) (h : s_res o ini r = some i) : r = i := by
  unfold s_res at h
  split at h
  all_goals first
    | exact Option.some.inj h
    | (exfalso
       first
         | (rw [Option.map_eq_some_iff] at h
            obtain ⟨n, -, rfl⟩ := h
            cases hp)
         | (cases h; done)
         | (split at h
            · rename_i n hn
              cases hf : s_fin n with
              | true =>
                rw [hf] at h
                cases hg : (ini && decide (s_cn o = s_cn (n / 64))) with
                | true => rw [hg] at h; cases h; cases hp
                | false => rw [hg] at h; cases h
              | false => rw [hf] at h; cases h; cases hp
            · cases h)
         | (split at h
            · cases h; cases hp
            · split at h
              · cases h; cases hp
              · rw [Option.map_eq_some_iff] at h
                obtain ⟨n, -, rfl⟩ := h
                cases hp))
theorem s_res_getfield {o : Nat} {ini : Bool} {r : Jvm.ClassFile.Instr} {n : Nat} (h : s_res o ini r = some (.getfield n)) : ∃ x, r = .getfield x ∧ s_look s_tF o x = some n := by
  cases r
  case getfield x =>
    have h : (s_look s_tF o x).map (fun n => Jvm.ClassFile.Instr.getfield n) = some (.getfield n) := h
    rw [Option.map_eq_some_iff] at h
    obtain ⟨k, hk, e⟩ := h
    cases e
    exact ⟨x, rfl, hk⟩
  case putfield x =>
    exfalso
    unfold s_res at h
    dsimp only at h
    split at h
    · rename_i n hn
      cases hf : s_fin n with
      | true =>
        rw [hf] at h
        cases hg : (ini && decide (s_cn o = s_cn (n / 64))) with
        | true => rw [hg] at h; cases h
        | false => rw [hg] at h; cases h
      | false => rw [hf] at h; cases h
    · cases h
  case invokestatic x =>
    exfalso
    unfold s_res at h
    dsimp only at h
    split at h
    · cases h
    · split at h
      · cases h
      · rw [Option.map_eq_some_iff] at h
        obtain ⟨n, -, e⟩ := h
        cases e
  all_goals first
    | (exfalso; exact nomatch (show some _ = some (Jvm.ClassFile.Instr.getfield n) from h))
    | (exfalso; exact nomatch (show none = some (Jvm.ClassFile.Instr.getfield n) from h))
    | (exfalso
       unfold s_res at h
       dsimp only at h
       rw [Option.map_eq_some_iff] at h
       obtain ⟨k, hk, e⟩ := h
       cases e)
theorem s_res_getstatic {o : Nat} {ini : Bool} {r : Jvm.ClassFile.Instr} {n : Nat} (h : s_res o ini r = some (.getstatic n)) : ∃ x, r = .getstatic x ∧ s_look s_tS o x = some n := by
  cases r
  case getstatic x =>
    have h : (s_look s_tS o x).map (fun n => Jvm.ClassFile.Instr.getstatic n) = some (.getstatic n) := h
    rw [Option.map_eq_some_iff] at h
    obtain ⟨k, hk, e⟩ := h
    cases e
    exact ⟨x, rfl, hk⟩
  case putfield x =>
    exfalso
    unfold s_res at h
    dsimp only at h
    split at h
    · rename_i n hn
      cases hf : s_fin n with
      | true =>
        rw [hf] at h
        cases hg : (ini && decide (s_cn o = s_cn (n / 64))) with
        | true => rw [hg] at h; cases h
        | false => rw [hg] at h; cases h
      | false => rw [hf] at h; cases h
    · cases h
  case invokestatic x =>
    exfalso
    unfold s_res at h
    dsimp only at h
    split at h
    · cases h
    · split at h
      · cases h
      · rw [Option.map_eq_some_iff] at h
        obtain ⟨n, -, e⟩ := h
        cases e
  all_goals first
    | (exfalso; exact nomatch (show some _ = some (Jvm.ClassFile.Instr.getstatic n) from h))
    | (exfalso; exact nomatch (show none = some (Jvm.ClassFile.Instr.getstatic n) from h))
    | (exfalso
       unfold s_res at h
       dsimp only at h
       rw [Option.map_eq_some_iff] at h
       obtain ⟨k, hk, e⟩ := h
       cases e)
theorem s_res_invokevirtual {o : Nat} {ini : Bool} {r : Jvm.ClassFile.Instr} {n : Nat} (h : s_res o ini r = some (.invokevirtual n)) : ∃ x, r = .invokevirtual x ∧ s_look s_tV o x = some n := by
  cases r
  case invokevirtual x =>
    have h : (s_look s_tV o x).map (fun n => Jvm.ClassFile.Instr.invokevirtual n) = some (.invokevirtual n) := h
    rw [Option.map_eq_some_iff] at h
    obtain ⟨k, hk, e⟩ := h
    cases e
    exact ⟨x, rfl, hk⟩
  case putfield x =>
    exfalso
    unfold s_res at h
    dsimp only at h
    split at h
    · rename_i n hn
      cases hf : s_fin n with
      | true =>
        rw [hf] at h
        cases hg : (ini && decide (s_cn o = s_cn (n / 64))) with
        | true => rw [hg] at h; cases h
        | false => rw [hg] at h; cases h
      | false => rw [hf] at h; cases h
    · cases h
  case invokestatic x =>
    exfalso
    unfold s_res at h
    dsimp only at h
    split at h
    · cases h
    · split at h
      · cases h
      · rw [Option.map_eq_some_iff] at h
        obtain ⟨n, -, e⟩ := h
        cases e
  all_goals first
    | (exfalso; exact nomatch (show some _ = some (Jvm.ClassFile.Instr.invokevirtual n) from h))
    | (exfalso; exact nomatch (show none = some (Jvm.ClassFile.Instr.invokevirtual n) from h))
    | (exfalso
       unfold s_res at h
       dsimp only at h
       rw [Option.map_eq_some_iff] at h
       obtain ⟨k, hk, e⟩ := h
       cases e)
theorem s_res_invokespecial {o : Nat} {ini : Bool} {r : Jvm.ClassFile.Instr} {n : Nat} (h : s_res o ini r = some (.invokespecial n)) : ∃ x, r = .invokespecial x ∧ s_look s_tI o x = some n := by
  cases r
  case invokespecial x =>
    have h : (s_look s_tI o x).map (fun n => Jvm.ClassFile.Instr.invokespecial n) = some (.invokespecial n) := h
    rw [Option.map_eq_some_iff] at h
    obtain ⟨k, hk, e⟩ := h
    cases e
    exact ⟨x, rfl, hk⟩
  case putfield x =>
    exfalso
    unfold s_res at h
    dsimp only at h
    split at h
    · rename_i n hn
      cases hf : s_fin n with
      | true =>
        rw [hf] at h
        cases hg : (ini && decide (s_cn o = s_cn (n / 64))) with
        | true => rw [hg] at h; cases h
        | false => rw [hg] at h; cases h
      | false => rw [hf] at h; cases h
    · cases h
  case invokestatic x =>
    exfalso
    unfold s_res at h
    dsimp only at h
    split at h
    · cases h
    · split at h
      · cases h
      · rw [Option.map_eq_some_iff] at h
        obtain ⟨n, -, e⟩ := h
        cases e
  all_goals first
    | (exfalso; exact nomatch (show some _ = some (Jvm.ClassFile.Instr.invokespecial n) from h))
    | (exfalso; exact nomatch (show none = some (Jvm.ClassFile.Instr.invokespecial n) from h))
    | (exfalso
       unfold s_res at h
       dsimp only at h
       rw [Option.map_eq_some_iff] at h
       obtain ⟨k, hk, e⟩ := h
       cases e)
theorem s_res_new {o : Nat} {ini : Bool} {r : Jvm.ClassFile.Instr} {n : Nat} (h : s_res o ini r = some (.new n)) : ∃ x, r = .new x ∧ s_look s_tC o x = some n := by
  cases r
  case new x =>
    have h : (s_look s_tC o x).map (fun n => Jvm.ClassFile.Instr.new n) = some (.new n) := h
    rw [Option.map_eq_some_iff] at h
    obtain ⟨k, hk, e⟩ := h
    cases e
    exact ⟨x, rfl, hk⟩
  case putfield x =>
    exfalso
    unfold s_res at h
    dsimp only at h
    split at h
    · rename_i n hn
      cases hf : s_fin n with
      | true =>
        rw [hf] at h
        cases hg : (ini && decide (s_cn o = s_cn (n / 64))) with
        | true => rw [hg] at h; cases h
        | false => rw [hg] at h; cases h
      | false => rw [hf] at h; cases h
    · cases h
  case invokestatic x =>
    exfalso
    unfold s_res at h
    dsimp only at h
    split at h
    · cases h
    · split at h
      · cases h
      · rw [Option.map_eq_some_iff] at h
        obtain ⟨n, -, e⟩ := h
        cases e
  all_goals first
    | (exfalso; exact nomatch (show some _ = some (Jvm.ClassFile.Instr.new n) from h))
    | (exfalso; exact nomatch (show none = some (Jvm.ClassFile.Instr.new n) from h))
    | (exfalso
       unfold s_res at h
       dsimp only at h
       rw [Option.map_eq_some_iff] at h
       obtain ⟨k, hk, e⟩ := h
       cases e)
theorem s_res_anewarray {o : Nat} {ini : Bool} {r : Jvm.ClassFile.Instr} {n : Nat} (h : s_res o ini r = some (.anewarray n)) : ∃ x, r = .anewarray x ∧ s_look s_tA o x = some n := by
  cases r
  case anewarray x =>
    have h : (s_look s_tA o x).map (fun n => Jvm.ClassFile.Instr.anewarray n) = some (.anewarray n) := h
    rw [Option.map_eq_some_iff] at h
    obtain ⟨k, hk, e⟩ := h
    cases e
    exact ⟨x, rfl, hk⟩
  case putfield x =>
    exfalso
    unfold s_res at h
    dsimp only at h
    split at h
    · rename_i n hn
      cases hf : s_fin n with
      | true =>
        rw [hf] at h
        cases hg : (ini && decide (s_cn o = s_cn (n / 64))) with
        | true => rw [hg] at h; cases h
        | false => rw [hg] at h; cases h
      | false => rw [hf] at h; cases h
    · cases h
  case invokestatic x =>
    exfalso
    unfold s_res at h
    dsimp only at h
    split at h
    · cases h
    · split at h
      · cases h
      · rw [Option.map_eq_some_iff] at h
        obtain ⟨n, -, e⟩ := h
        cases e
  all_goals first
    | (exfalso; exact nomatch (show some _ = some (Jvm.ClassFile.Instr.anewarray n) from h))
    | (exfalso; exact nomatch (show none = some (Jvm.ClassFile.Instr.anewarray n) from h))
    | (exfalso
       unfold s_res at h
       dsimp only at h
       rw [Option.map_eq_some_iff] at h
       obtain ⟨k, hk, e⟩ := h
       cases e)
theorem s_res_ldc {o : Nat} {ini : Bool} {r : Jvm.ClassFile.Instr} {n : Nat} (h : s_res o ini r = some (.ldc n)) : ∃ x, r = .ldc x ∧ s_look s_tK o x = some n := by
  cases r
  case ldc x =>
    have h : (s_look s_tK o x).map (fun n => Jvm.ClassFile.Instr.ldc n) = some (.ldc n) := h
    rw [Option.map_eq_some_iff] at h
    obtain ⟨k, hk, e⟩ := h
    cases e
    exact ⟨x, rfl, hk⟩
  case putfield x =>
    exfalso
    unfold s_res at h
    dsimp only at h
    split at h
    · rename_i n hn
      cases hf : s_fin n with
      | true =>
        rw [hf] at h
        cases hg : (ini && decide (s_cn o = s_cn (n / 64))) with
        | true => rw [hg] at h; cases h
        | false => rw [hg] at h; cases h
      | false => rw [hf] at h; cases h
    · cases h
  case invokestatic x =>
    exfalso
    unfold s_res at h
    dsimp only at h
    split at h
    · cases h
    · split at h
      · cases h
      · rw [Option.map_eq_some_iff] at h
        obtain ⟨n, -, e⟩ := h
        cases e
  all_goals first
    | (exfalso; exact nomatch (show some _ = some (Jvm.ClassFile.Instr.ldc n) from h))
    | (exfalso; exact nomatch (show none = some (Jvm.ClassFile.Instr.ldc n) from h))
    | (exfalso
       unfold s_res at h
       dsimp only at h
       rw [Option.map_eq_some_iff] at h
       obtain ⟨k, hk, e⟩ := h
       cases e)
theorem s_res_ldc_w {o : Nat} {ini : Bool} {r : Jvm.ClassFile.Instr} {n : Nat} (h : s_res o ini r = some (.ldc_w n)) : ∃ x, r = .ldc_w x ∧ s_look s_tK o x = some n := by
  cases r
  case ldc_w x =>
    have h : (s_look s_tK o x).map (fun n => Jvm.ClassFile.Instr.ldc_w n) = some (.ldc_w n) := h
    rw [Option.map_eq_some_iff] at h
    obtain ⟨k, hk, e⟩ := h
    cases e
    exact ⟨x, rfl, hk⟩
  case putfield x =>
    exfalso
    unfold s_res at h
    dsimp only at h
    split at h
    · rename_i n hn
      cases hf : s_fin n with
      | true =>
        rw [hf] at h
        cases hg : (ini && decide (s_cn o = s_cn (n / 64))) with
        | true => rw [hg] at h; cases h
        | false => rw [hg] at h; cases h
      | false => rw [hf] at h; cases h
    · cases h
  case invokestatic x =>
    exfalso
    unfold s_res at h
    dsimp only at h
    split at h
    · cases h
    · split at h
      · cases h
      · rw [Option.map_eq_some_iff] at h
        obtain ⟨n, -, e⟩ := h
        cases e
  all_goals first
    | (exfalso; exact nomatch (show some _ = some (Jvm.ClassFile.Instr.ldc_w n) from h))
    | (exfalso; exact nomatch (show none = some (Jvm.ClassFile.Instr.ldc_w n) from h))
    | (exfalso
       unfold s_res at h
       dsimp only at h
       rw [Option.map_eq_some_iff] at h
       obtain ⟨k, hk, e⟩ := h
       cases e)
theorem s_res_ldc2_w {o : Nat} {ini : Bool} {r : Jvm.ClassFile.Instr} {n : Nat} (h : s_res o ini r = some (.ldc2_w n)) : ∃ x, r = .ldc2_w x ∧ s_look s_tL o x = some n := by
  cases r
  case ldc2_w x =>
    have h : (s_look s_tL o x).map (fun n => Jvm.ClassFile.Instr.ldc2_w n) = some (.ldc2_w n) := h
    rw [Option.map_eq_some_iff] at h
    obtain ⟨k, hk, e⟩ := h
    cases e
    exact ⟨x, rfl, hk⟩
  case putfield x =>
    exfalso
    unfold s_res at h
    dsimp only at h
    split at h
    · rename_i n hn
      cases hf : s_fin n with
      | true =>
        rw [hf] at h
        cases hg : (ini && decide (s_cn o = s_cn (n / 64))) with
        | true => rw [hg] at h; cases h
        | false => rw [hg] at h; cases h
      | false => rw [hf] at h; cases h
    · cases h
  case invokestatic x =>
    exfalso
    unfold s_res at h
    dsimp only at h
    split at h
    · cases h
    · split at h
      · cases h
      · rw [Option.map_eq_some_iff] at h
        obtain ⟨n, -, e⟩ := h
        cases e
  all_goals first
    | (exfalso; exact nomatch (show some _ = some (Jvm.ClassFile.Instr.ldc2_w n) from h))
    | (exfalso; exact nomatch (show none = some (Jvm.ClassFile.Instr.ldc2_w n) from h))
    | (exfalso
       unfold s_res at h
       dsimp only at h
       rw [Option.map_eq_some_iff] at h
       obtain ⟨k, hk, e⟩ := h
       cases e)
def s_ln (i : Jvm.ClassFile.Instr) : Nat := match i with
  | .iload _ | .istore _ | .aload _ | .astore _ | .lload _ | .lstore _ | .bipush _ | .ldc _ | .newarray _ => 2
  | .iinc _ _ | .sipush _ | .ldc_w _ | .ldc2_w _ | .goto _ | .ifCond _ _ | .if_icmp _ _ | .ifnull _ | .ifnonnull _ | .getfield _ | .putfield _ | .getstatic _ | .putstatic _ | .invokevirtual _ | .invokespecial _ | .invokestatic _ | .invokedynamic _ | .invokeinterface _ _ | .new _ | .anewarray _ => 3
  | _ => 1
def s_ln2 (i : Jvm.ClassFile.Instr) (len : Nat) : Bool := match i with
  | .lookupswitch _ _ | .tableswitch _ _ _ _ => true
  | j => decide (s_ln j = len)
theorem s_get_mem {l : sL} {k : Nat} {v : Value} (h : s_get l k = some v) : (k, v) ∈ l := by
  induction l with
  | nil => cases h
  | cons q r ih =>
    unfold s_get at h
    cases hb : Nat.beq q.1 k with
    | true =>
      rw [hb] at h
      have e1 := Nat.eq_of_beq_eq_true hb
      obtain ⟨a, b⟩ := q
      cases h
      cases e1
      exact List.mem_cons_self
    | false =>
      rw [hb] at h
      exact List.mem_cons_of_mem _ (ih h)
theorem s_trl_mem {tt α : Nat → Nat} {l : sL} {k : Nat} {v : Value} (h : (k, v) ∈ l) : (k, s_tr tt α v) ∈ s_trl tt α l := List.mem_map.mpr ⟨(k, v), h, rfl⟩
theorem s_at_l {lsR : Array Slot} {mx : Nat} {tt α : Nat → Nat} {ls : sL} {k : Nat} {v : Value} (hl : lv_has lsR mx (s_trl tt α ls)) (h : s_get ls k = some v) : lsR[k]? = some (.val (s_tr tt α v)) := hl.2.2 _ (s_trl_mem (s_get_mem h))
theorem s_set_l {tt α : Nat → Nat} {ls : sL} {k : Nat} {v : Value} : (k, s_tr tt α v) :: (s_trl tt α ls).filter (fun q => !(q.1 == k) && !(q.1 + 1 == k && q.2.category == 2)) = s_trl tt α (s_set ls k v) := by
  unfold s_trl s_set
  rw [List.map_cons, List.filter_map]
  refine congrArg (fun z => (k, s_tr tt α v) :: z) (congrArg _ (List.filter_congr fun q _ => ?_))
  simp only [Function.comp, s_tr_cat]
theorem s_setL_l {tt α : Nat → Nat} {ls : sL} {k : Nat} {v : Value} : (k, s_tr tt α v) :: (s_trl tt α ls).filter (fun q => !(q.1 == k) && (!(q.1 == k + 1) && !(q.1 + 1 == k && q.2.category == 2))) = s_trl tt α (s_setL ls k v) := by
  unfold s_trl s_setL
  rw [List.map_cons, List.filter_map]
  refine congrArg (fun z => (k, s_tr tt α v) :: z) (congrArg _ (List.filter_congr fun q _ => ?_))
  simp only [Function.comp, s_tr_cat]
theorem s_mem_at {l : List (Nat × Value)} {q : Nat × Value} (h : q ∈ l) : ∃ k : Nat, l[k]? = some q := List.getElem?_of_mem h
theorem s_tgt_eq {pc : Nat} {off : Int} {t : Nat} (h : s_tgt pc off = some t) : (pc : Int) + off = (t : Int) := by
  unfold s_tgt at h
  split at h
  · rename_i t' ht
    cases h
    exact ht
  · cases h
theorem s_fld_at {M : sM} {a n : Nat} {v : Value} (h : s_fld M a n = some v) : ∃ fs, M[a]? = some (n / 64, fs) ∧ fs[n % 64]? = some v := by
  unfold s_fld at h
  split at h
  · rename_i c hc
    cases hb : Nat.beq c.1 (n / 64) with
    | true =>
      rw [hb] at h
      have e := Nat.eq_of_beq_eq_true hb
      obtain ⟨k, fs⟩ := c
      cases e
      exact ⟨fs, hc, h⟩
    | false => rw [hb] at h; cases h
  · cases h
theorem s_at_at {M : sM} {a : Nat} {i : Int32} {ok : Nat → Bool} {v : Value} (h : s_at M a i ok = some v) : ∃ k vs, M[a]? = some (k, vs) ∧ ok k = true ∧ ¬ i < 0 ∧ vs[i.toNatClampNeg]? = some v ∧ vp_in i vs.length := by
  unfold s_at at h
  split at h
  · rename_i c hc
    cases hb : (ok c.1 && !decide (i < 0)) with
    | true =>
      rw [hb] at h
      rw [Bool.and_eq_true] at hb
      have h0 : ¬ i < 0 := by simpa using hb.2
      have hlt := (List.getElem?_eq_some_iff.mp h).1
      exact ⟨c.1, c.2, hc, hb.1, h0, h, fun q => q.elim h0 (fun z => Nat.not_le.mpr hlt z)⟩
    | false => rw [hb] at h; cases h
  · cases h
theorem s_br_sp {b : Bool} {pc : Nat} {off : Int} {ls : sL} {r : List Value} {P : Nat} {ls' : sL} {r' : List Value} (h : s_jump (s_br b pc off) ls r = some (P, ls', r')) : ls' = ls ∧ r' = r ∧ ((b = true ∧ (pc : Int) + off = (P : Int)) ∨ (b = false ∧ P = pc + 3)) := by
  unfold s_jump at h
  split at h
  · rename_i t ht
    cases h
    cases b with
    | true => exact ⟨rfl, rfl, Or.inl ⟨rfl, s_tgt_eq ht⟩⟩
    | false => exact ⟨rfl, rfl, Or.inr ⟨rfl, (Option.some.inj ht).symm⟩⟩
  · cases h
theorem s_jp_sp {o : Option Nat} {ls : sL} {r : List Value} {P : Nat} {ls' : sL} {r' : List Value} (h : s_jump o ls r = some (P, ls', r')) : ls' = ls ∧ r' = r ∧ o = some P := by
  unfold s_jump at h
  split at h
  · cases h; exact ⟨rfl, rfl, rfl⟩
  · cases h
theorem s_kFat {o x n : Nat} (h : s_look s_tF o x = some n) : ∃ C T N, vwCl[n / 64]? = some (C, T, N) ∧ n % 64 < N ∧ (Cond.fieldLink (s_cn o) x C (T (n % 64)).2.1 (T (n % 64)).2.2.1) ∈ s_G ∧ (T (n % 64)).1 = C := by
  obtain ⟨p, hp⟩ := s_look_mem h
  have h1 := List.all_eq_true.mp s_kF_ok _ hp
  unfold s_kF at h1
  dsimp only at h1
  split at h1
  · rename_i c hc
    simp only [Bool.and_eq_true, decide_eq_true_eq] at h1
    exact ⟨c.1, c.2.1, c.2.2, hc, h1.2.2, s_atG h1.1 rfl, h1.2.1⟩
  · cases h1
theorem s_kSat {o x n : Nat} (h : s_look s_tS o x = some n) : n < 2 ∧ (Cond.fieldLink (s_cn o) x "OldestLaw$Clauses" (s_stn n) "[I") ∈ s_G := by
  obtain ⟨p, hp⟩ := s_look_mem h
  have h1 := List.all_eq_true.mp s_kS_ok _ hp
  unfold s_kS at h1
  simp only [Bool.and_eq_true, decide_eq_true_eq] at h1
  exact ⟨h1.2, s_atG h1.1 rfl⟩
theorem s_kKat {o x n : Nat} (h : s_look s_tK o x = some n) : (Cond.constant (s_cn o) x (Int32.ofNat n)) ∈ s_G := by
  obtain ⟨p, hp⟩ := s_look_mem h
  have h1 := List.all_eq_true.mp s_kK_ok _ hp
  unfold s_kK at h1
  simp only [decide_eq_true_eq] at h1
  exact s_atG h1 rfl
theorem s_kLat {o x n : Nat} (h : s_look s_tL o x = some n) : (Cond.constantLong (s_cn o) x (Int64.ofNat n)) ∈ s_G := by
  obtain ⟨p, hp⟩ := s_look_mem h
  have h1 := List.all_eq_true.mp s_kL_ok _ hp
  unfold s_kL at h1
  simp only [decide_eq_true_eq] at h1
  exact s_atG h1 rfl
theorem s_gw0 : wsX00.all goodWord = true := by decide +kernel
theorem s_gw1 : wsX10.all goodWord = true := by decide +kernel
theorem s_gw2 : wsX20.all goodWord = true := by decide +kernel
theorem s_gw3 : wsX30.all goodWord = true := by decide +kernel
theorem s_gw4 : wsX40.all goodWord = true := by decide +kernel
theorem s_gw5 : wsX50.all goodWord = true := by decide +kernel
theorem s_gw6 : wsX60.all goodWord = true := by decide +kernel
theorem s_gw7 : wsX70.all goodWord = true := by decide +kernel
theorem s_gw8 : wsX80.all goodWord = true := by decide +kernel
theorem s_gw9 : wsX90.all goodWord = true := by decide +kernel
theorem s_gw10 : wsX100.all goodWord = true := by decide +kernel
theorem s_gw11 : wsX110.all goodWord = true := by decide +kernel
/-- a kind's class: its words, its fields' types -/
theorem s_clok {k : Nat} {C : String} {T : u_T} {N : Nat} (h : vwCl[k]? = some (C, T, N)) : (∀ w ∈ u_ws C T N, w ∈ s_G) ∧ (∀ i, i < N → parseFieldDescriptor (T i).2.2.1 = some (s_fty k i)) ∧ (∀ a, a < N → ∀ b, b < N → a ≠ b → (T a).2.1 ≠ (T b).2.1) ∧ Cond.instantiable C N ∈ s_G ∧ Cond.initialized C ∈ s_G ∧ s_ft[k]? = some (N, s_fty k) ∧ s_cn k = C := by
  have hk : k < 12 := (List.getElem?_eq_some_iff.mp h).1
  match k, hk, h with
  | 0, _, h => cases h; exact ⟨fun w hw => s_inG (s_inX0 w hw) (List.all_eq_true.mp s_gw0 w hw), tyX0_ok, nmX0, s_atG (i := 200) (by decide +kernel) rfl, s_atG (i := 110) (by decide +kernel) rfl, rfl, rfl⟩
  | 1, _, h => cases h; exact ⟨fun w hw => s_inG (s_inX1 w hw) (List.all_eq_true.mp s_gw1 w hw), tyX1_ok, nmX1, s_atG (i := 301) (by decide +kernel) rfl, s_atG (i := 111) (by decide +kernel) rfl, rfl, rfl⟩
  | 2, _, h => cases h; exact ⟨fun w hw => s_inG (s_inX2 w hw) (List.all_eq_true.mp s_gw2 w hw), tyX2_ok, nmX2, s_atG (i := 363) (by decide +kernel) rfl, s_atG (i := 113) (by decide +kernel) rfl, rfl, rfl⟩
  | 3, _, h => cases h; exact ⟨fun w hw => s_inG (s_inX3 w hw) (List.all_eq_true.mp s_gw3 w hw), tyX3_ok, nmX3, s_atG (i := 166) (by decide +kernel) rfl, s_atG (i := 107) (by decide +kernel) rfl, rfl, rfl⟩
  | 4, _, h => cases h; exact ⟨fun w hw => s_inG (s_inX4 w hw) (List.all_eq_true.mp s_gw4 w hw), tyX4_ok, nmX4, s_atG (i := 192) (by decide +kernel) rfl, s_atG (i := 109) (by decide +kernel) rfl, rfl, rfl⟩
  | 5, _, h => cases h; exact ⟨fun w hw => s_inG (s_inX5 w hw) (List.all_eq_true.mp s_gw5 w hw), tyX5_ok, nmX5, s_atG (i := 129) (by decide +kernel) rfl, s_atG (i := 105) (by decide +kernel) rfl, rfl, rfl⟩
  | 6, _, h => cases h; exact ⟨fun w hw => s_inG (s_inX6 w hw) (List.all_eq_true.mp s_gw6 w hw), tyX6_ok, nmX6, s_atG (i := 385) (by decide +kernel) rfl, s_atG (i := 114) (by decide +kernel) rfl, rfl, rfl⟩
  | 7, _, h => cases h; exact ⟨fun w hw => s_inG (s_inX7 w hw) (List.all_eq_true.mp s_gw7 w hw), tyX7_ok, nmX7, s_atG (i := 135) (by decide +kernel) rfl, s_atG (i := 106) (by decide +kernel) rfl, rfl, rfl⟩
  | 8, _, h => cases h; exact ⟨fun w hw => s_inG (s_inX8 w hw) (List.all_eq_true.mp s_gw8 w hw), tyX8_ok, nmX8, s_atG (i := 327) (by decide +kernel) rfl, s_atG (i := 112) (by decide +kernel) rfl, rfl, rfl⟩
  | 9, _, h => cases h; exact ⟨fun w hw => s_inG (s_inX9 w hw) (List.all_eq_true.mp s_gw9 w hw), tyX9_ok, nmX9, s_atG (i := 172) (by decide +kernel) rfl, s_atG (i := 108) (by decide +kernel) rfl, rfl, rfl⟩
  | 10, _, h => cases h; exact ⟨fun w hw => s_inG (s_inX10 w hw) (List.all_eq_true.mp s_gw10 w hw), tyX10_ok, nmX10, s_atG (i := 121) (by decide +kernel) rfl, s_atG (i := 104) (by decide +kernel) rfl, rfl, rfl⟩
  | 11, _, h => cases h; exact ⟨fun w hw => s_inG (s_inX11 w hw) (List.all_eq_true.mp s_gw11 w hw), tyX11_ok, nmX11, s_atG (i := 1170) (by decide +kernel) rfl, s_atG (i := 115) (by decide +kernel) rfl, rfl, rfl⟩
section S9b
variable {p : Program} {l : Launch} {e : Env} {R : Room} {s : State} {m : MethodId} {args : Array Value} {below : List Frame} {meth : Method} {c : Code} {H : Heap} {locs : List Loc} {cells slots : Nat} {Q : State → Prop}
variable {cc : ByteArray} {pc : Nat} {ls : Array Slot} {rest : List Value}
theorem s_ifc (hx : p.tables.exec = Jvm.exec) (hb : c.code = cc) {cnd : Jvm.ClassFile.Cond} {off : Int} {x : Int32} {P : Nat} (hd : decode cc pc = .ok (.ifCond cnd off, 3)) (h9 : (s_c1 cnd x = true ∧ (pc : Int) + off = (P : Int)) ∨ (s_c1 cnd x = false ∧ P = pc + 3))
    (k : W p l e R s m args below meth c H locs cells slots Q (F0 m P ls rest)) : W p l e R s m args below meth c H locs cells slots Q (F0 m pc ls (.int x :: rest)) := by
  intro T hT X
  obtain ⟨t, a1, b1⟩ := k T hT X
  refine ⟨t, ?_, b1⟩
  rcases h9 with ⟨hc, ht⟩ | ⟨hc, rfl⟩
  · cases cnd <;> (simp only [s_c1, decide_eq_true_eq, Bool.not_eq_true', decide_eq_false_iff_not] at hc; jvm_step X.here [X.here.top, hx, hb, hd, Op.ifCond.holds, hc, ht]; exact a1)
  · cases cnd <;> (simp only [s_c1, Bool.not_eq_false', decide_eq_true_eq, decide_eq_false_iff_not] at hc; jvm_step X.here [X.here.top, hx, hb, hd, Op.ifCond.holds, hc]; exact a1)
theorem s_icc (hx : p.tables.exec = Jvm.exec) (hb : c.code = cc) {cnd : Jvm.ClassFile.Cond} {off : Int} {x y : Int32} {P : Nat} (hd : decode cc pc = .ok (.if_icmp cnd off, 3)) (h9 : (s_c2 cnd x y = true ∧ (pc : Int) + off = (P : Int)) ∨ (s_c2 cnd x y = false ∧ P = pc + 3))
    (k : W p l e R s m args below meth c H locs cells slots Q (F0 m P ls rest)) : W p l e R s m args below meth c H locs cells slots Q (F0 m pc ls (.int y :: .int x :: rest)) := by
  intro T hT X
  obtain ⟨t, a1, b1⟩ := k T hT X
  refine ⟨t, ?_, b1⟩
  rcases h9 with ⟨hc, ht⟩ | ⟨hc, rfl⟩
  · cases cnd <;> (simp only [s_c2, decide_eq_true_eq, Bool.not_eq_true', decide_eq_false_iff_not] at hc; jvm_step X.here [X.here.top, hx, hb, hd, Op.if_icmp.holds, hc, ht]; exact a1)
  · cases cnd <;> (simp only [s_c2, Bool.not_eq_false', decide_eq_true_eq, decide_eq_false_iff_not] at hc; jvm_step X.here [X.here.top, hx, hb, hd, Op.if_icmp.holds, hc]; exact a1)
end S9b
theorem s_im_i {cy : Nat → ClassId} {tt α : Nat → Nat} {vs : List Value} : s_im cy tt α (13, vs) = .inl (cy 13, vs.length, .inl (s_iv vs)) := rfl
theorem s_im_b {cy : Nat → ClassId} {tt α : Nat → Nat} {vs : List Value} : s_im cy tt α (12, vs) = .inl (cy 12, vs.length, .inl (s_iv vs)) := rfl
theorem s_im_s {cy : Nat → ClassId} {tt α : Nat → Nat} {vs : List Value} : s_im cy tt α (15, vs) = .inl (cy 15, vs.length, .inl (s_iv vs)) := rfl
theorem s_im_z {cy : Nat → ClassId} {tt α : Nat → Nat} {vs : List Value} : s_im cy tt α (16, vs) = .inl (cy 16, vs.length, .inl (s_iv vs)) := rfl
theorem s_im_l {cy : Nat → ClassId} {tt α : Nat → Nat} {vs : List Value} : s_im cy tt α (14, vs) = .inl (cy 14, vs.length, .inr (.inl (s_lv vs))) := rfl
theorem s_im_q {cy : Nat → ClassId} {tt α : Nat → Nat} {k : Nat} {vs : List Value} (h : 17 ≤ k) : s_im cy tt α (k, vs) = .inl (cy k, vs.length, .inr (.inr (.inr (.inr (s_qv α vs))))) := by
  unfold s_im s_arr
  rw [if_neg (show ¬ (k, vs).1 < 12 by dsimp only; omega), if_neg (show ¬ (k, vs).1 = 14 by dsimp only; omega), if_neg (show ¬ (k, vs).1 < 17 by dsimp only; omega)]
theorem s_tys_q {cy : Nat → ClassId} {k : Nat} (h1 : 17 ≤ k) (h2 : k ≤ 19) : ∃ C, (s_tys cy)[k - 12]? = some (cy k, .object C) := by
  rcases (show k = 17 ∨ k = 18 ∨ k = 19 by omega) with rfl | rfl | rfl <;> exact ⟨_, rfl⟩
theorem s_tys_at {cy : Nat → ClassId} {k : Nat} (h1 : 12 ≤ k) (h2 : k ≤ 19) : ∃ ty, (s_tys cy)[k - 12]? = some (cy k, ty) := by
  rcases (show k = 12 ∨ k = 13 ∨ k = 14 ∨ k = 15 ∨ k = 16 ∨ k = 17 ∨ k = 18 ∨ k = 19 by omega) with rfl | rfl | rfl | rfl | rfl | rfl | rfl | rfl <;> exact ⟨_, rfl⟩
section S9
variable {p : Program} {l : Launch} {e : Env} {R : Room} {s : State} {m : MethodId} {args : Array Value} {below : List Frame} {meth : Method} {c : Code} {H : Heap} {locs : List Loc} {cells slots : Nat} {Q : State → Prop}
variable {own mx : Nat} {ini : Bool} {cc : ByteArray} {D : va_G} {cy tt α : Nat → Nat} {E : sE} {A : Nat → Prop} {M : sM}
set_option maxHeartbeats 4000000 in
theorem s_simP (hF : s_Fr p s m args meth c own ini cc mx) (hK : s_Kx D cy s) (hT : s_Tx E tt A s s.heap) (hP : va_P D vwCl (s_img cy tt α M) H) (hS : va_S A s.heap H locs) {ls : sL} {st : List Value} {lsR : Array Slot} {pc len : Nat} {i r : Jvm.ClassFile.Instr} (hl : lv_has lsR mx (s_trl tt α ls)) (hd : decode cc pc = .ok (r, len)) (hr : s_res own ini r = some i) (hn : s_ln2 i len = true) {P : Nat} {ls' : sL} {st' : List Value} (h : s_pure E mx i pc (pc + len) ls st M = some (P, ls', st'))
    (kk : ∀ lsR' : Array Slot, lv_has lsR' mx (s_trl tt α ls') → W p l e R s m args below meth c H locs cells slots Q (F0 m P lsR' (st'.map (s_tr tt α)))) : W p l e R s m args below meth c H locs cells slots Q (F0 m pc lsR (st.map (s_tr tt α))) := by
  obtain ⟨hx, hb, hml, hown, hts, hin⟩ := hF
  cases i
  case iload k =>
    have e := s_res_pl rfl hr
    subst e
    obtain rfl := of_decide_eq_true hn
    replace h : s_ild k _ ls st = _ := h
    unfold s_ild at h
    split at h
    · rename_i x hx9
      cases h
      exact lv_iload hx hb hd (s_at_l hl hx9) (kk _ hl)
    · cases h
  case iload_n k =>
    have e := s_res_pl rfl hr
    subst e
    obtain rfl := of_decide_eq_true hn
    replace h : s_ild k.val _ ls st = _ := h
    unfold s_ild at h
    split at h
    · rename_i x hx9
      cases h
      exact lv_iload_n hx hb hd rfl (s_at_l hl hx9) (kk _ hl)
    · cases h
  case lload k =>
    have e := s_res_pl rfl hr
    subst e
    obtain rfl := of_decide_eq_true hn
    replace h : s_lld k _ ls st = _ := h
    unfold s_lld at h
    split at h
    · rename_i x hx9
      cases h
      exact lv_lload hx hb hd (s_at_l hl hx9) (kk _ hl)
    · cases h
  case lload_n k =>
    have e := s_res_pl rfl hr
    subst e
    obtain rfl := of_decide_eq_true hn
    replace h : s_lld k.val _ ls st = _ := h
    unfold s_lld at h
    split at h
    · rename_i x hx9
      cases h
      exact lv_lload_n hx hb hd rfl (s_at_l hl hx9) (kk _ hl)
    · cases h
  case aload k =>
    have e := s_res_pl rfl hr
    subst e
    obtain rfl := of_decide_eq_true hn
    replace h : s_ald k _ ls st = _ := h
    unfold s_ald at h
    split at h
    · rename_i x hx9
      cases h
      exact lv_aload hx hb hd (s_at_l hl hx9) (kk _ hl)
    · rename_i hx9
      cases h
      exact lv_aloadN hx hb hd (s_at_l hl hx9) (kk _ hl)
    · rename_i j hx9
      cases h
      exact lv_aload hx hb hd (s_at_l hl hx9) (kk _ hl)
    · cases h
  case aload_n k =>
    have e := s_res_pl rfl hr
    subst e
    obtain rfl := of_decide_eq_true hn
    replace h : s_ald k.val _ ls st = _ := h
    unfold s_ald at h
    split at h
    · rename_i x hx9
      cases h
      exact lv_aload_n hx hb hd rfl (s_at_l hl hx9) (kk _ hl)
    · rename_i hx9
      cases h
      exact lv_aload_nN hx hb hd rfl (s_at_l hl hx9) (kk _ hl)
    · rename_i j hx9
      cases h
      exact lv_aload_n hx hb hd rfl (s_at_l hl hx9) (kk _ hl)
    · cases h
  case istore k =>
    have e := s_res_pl rfl hr
    subst e
    obtain rfl := of_decide_eq_true hn
    replace h : s_ist mx k _ ls st = _ := h
    unfold s_ist at h
    split at h
    · rename_i x r9
      cases hb9 : Nat.blt (k) mx with
      | true =>
        rw [hb9] at h
        cases h
        exact lv_istore hx hb hd hl (Nat.le_of_ble_eq_true hb9) (s_set_l (v := .int x)) (fun ls9 hl9 => kk _ hl9)
      | false => rw [hb9] at h; cases h
    · cases h
  case istore_n k =>
    have e := s_res_pl rfl hr
    subst e
    obtain rfl := of_decide_eq_true hn
    replace h : s_ist mx k.val _ ls st = _ := h
    unfold s_ist at h
    split at h
    · rename_i x r9
      cases hb9 : Nat.blt (k.val) mx with
      | true =>
        rw [hb9] at h
        cases h
        exact lv_istore_n hx hb hd rfl hl (Nat.le_of_ble_eq_true hb9) (s_set_l (v := .int x)) (fun ls9 hl9 => kk _ hl9)
      | false => rw [hb9] at h; cases h
    · cases h
  case lstore k =>
    have e := s_res_pl rfl hr
    subst e
    obtain rfl := of_decide_eq_true hn
    replace h : s_lst mx k _ ls st = _ := h
    unfold s_lst at h
    split at h
    · rename_i x r9
      cases hb9 : Nat.blt (k + 1) mx with
      | true =>
        rw [hb9] at h
        cases h
        exact lv_lstore hx hb hd hl (Nat.le_of_ble_eq_true hb9) (s_setL_l (v := .long x)) (fun ls9 hl9 => kk _ hl9)
      | false => rw [hb9] at h; cases h
    · cases h
  case lstore_n k =>
    have e := s_res_pl rfl hr
    subst e
    obtain rfl := of_decide_eq_true hn
    replace h : s_lst mx k.val _ ls st = _ := h
    unfold s_lst at h
    split at h
    · rename_i x r9
      cases hb9 : Nat.blt (k.val + 1) mx with
      | true =>
        rw [hb9] at h
        cases h
        exact lv_lstore_n hx hb hd rfl hl (Nat.le_of_ble_eq_true hb9) (s_setL_l (v := .long x)) (fun ls9 hl9 => kk _ hl9)
      | false => rw [hb9] at h; cases h
    · cases h
  case astore k =>
    have e := s_res_pl rfl hr
    subst e
    obtain rfl := of_decide_eq_true hn
    replace h : s_ast mx k _ ls st = _ := h
    unfold s_ast at h
    split at h
    · rename_i x r9
      cases hb9 : Nat.blt (k) mx with
      | true =>
        rw [hb9] at h
        cases h
        exact lv_astore hx hb hd hl (Nat.le_of_ble_eq_true hb9) (s_set_l (v := .ref x)) (fun ls9 hl9 => kk _ hl9)
      | false => rw [hb9] at h; cases h
    · rename_i r9
      cases hb9 : Nat.blt (k) mx with
      | true =>
        rw [hb9] at h
        cases h
        exact lv_astoreN hx hb hd hl (Nat.le_of_ble_eq_true hb9) (s_set_l (v := .null)) (fun ls9 hl9 => kk _ hl9)
      | false => rw [hb9] at h; cases h
    · cases h
  case astore_n k =>
    have e := s_res_pl rfl hr
    subst e
    obtain rfl := of_decide_eq_true hn
    replace h : s_ast mx k.val _ ls st = _ := h
    unfold s_ast at h
    split at h
    · rename_i x r9
      cases hb9 : Nat.blt (k.val) mx with
      | true =>
        rw [hb9] at h
        cases h
        exact lv_astore_n hx hb hd rfl hl (Nat.le_of_ble_eq_true hb9) (s_set_l (v := .ref x)) (fun ls9 hl9 => kk _ hl9)
      | false => rw [hb9] at h; cases h
    · rename_i r9
      cases hb9 : Nat.blt (k.val) mx with
      | true =>
        rw [hb9] at h
        cases h
        exact lv_astore_nN hx hb hd rfl hl (Nat.le_of_ble_eq_true hb9) (s_set_l (v := .null)) (fun ls9 hl9 => kk _ hl9)
      | false => rw [hb9] at h; cases h
    · cases h
  case iinc k n =>
    have e := s_res_pl rfl hr
    subst e
    obtain rfl := of_decide_eq_true hn
    replace h : s_iinc mx k n _ ls st = _ := h
    unfold s_iinc at h
    split at h
    · rename_i x hx9
      cases hb9 : Nat.blt k mx with
      | true =>
        rw [hb9] at h
        cases h
        obtain ⟨q9, hq9⟩ := s_mem_at (s_trl_mem (tt := tt) (α := α) (s_get_mem hx9))
        exact lv_iinc hx hb hd hl hq9 rfl (Nat.le_of_ble_eq_true hb9) (s_set_l (v := .int (x + Int32.ofInt n))) (fun ls9 hl9 => kk _ hl9)
      | false => rw [hb9] at h; cases h
    · cases h
  case iconst n =>
    have e := s_res_pl rfl hr
    subst e
    obtain rfl := of_decide_eq_true hn
    cases h
    exact lv_iconst hx hb hd rfl (kk _ hl)
  case bipush n =>
    have e := s_res_pl rfl hr
    subst e
    obtain rfl := of_decide_eq_true hn
    cases h
    exact lv_bipush hx hb hd rfl (kk _ hl)
  case sipush n =>
    have e := s_res_pl rfl hr
    subst e
    obtain rfl := of_decide_eq_true hn
    cases h
    exact lv_sipush hx hb hd rfl (kk _ hl)
  case lconst n =>
    have e := s_res_pl rfl hr
    subst e
    obtain rfl := of_decide_eq_true hn
    cases h
    exact lv_lconst hx hb hd rfl (kk _ hl)
  case aconst_null =>
    have e := s_res_pl rfl hr
    subst e
    obtain rfl := of_decide_eq_true hn
    cases h
    exact lv_null hx hb hd (kk _ hl)
  case ldc n =>
    obtain ⟨x9, rfl, hk9⟩ := s_res_ldc hr
    obtain rfl := of_decide_eq_true hn
    cases h
    exact lv_ldc hx hb hown (hts _ (s_kKat hk9)) hd (kk _ hl)
  case ldc_w n =>
    obtain ⟨x9, rfl, hk9⟩ := s_res_ldc_w hr
    obtain rfl := of_decide_eq_true hn
    cases h
    exact lv_ldcw hx hb hown (hts _ (s_kKat hk9)) hd (kk _ hl)
  case ldc2_w n =>
    obtain ⟨x9, rfl, hk9⟩ := s_res_ldc2_w hr
    obtain rfl := of_decide_eq_true hn
    cases h
    exact lv_ldc2 hx hb hown (hts _ (s_kLat hk9)) hd (kk _ hl)
  case iadd =>
    have e := s_res_pl rfl hr
    subst e
    obtain rfl := of_decide_eq_true hn
    replace h : s_i2 st _ _ ls = _ := h
    unfold s_i2 at h
    split at h
    · cases h
      exact lv_iadd hx hb hd (kk _ hl)
    · cases h
  case isub =>
    have e := s_res_pl rfl hr
    subst e
    obtain rfl := of_decide_eq_true hn
    replace h : s_i2 st _ _ ls = _ := h
    unfold s_i2 at h
    split at h
    · cases h
      exact lv_isub hx hb hd (kk _ hl)
    · cases h
  case imul =>
    have e := s_res_pl rfl hr
    subst e
    obtain rfl := of_decide_eq_true hn
    replace h : s_i2 st _ _ ls = _ := h
    unfold s_i2 at h
    split at h
    · cases h
      exact lv_imul hx hb hd (kk _ hl)
    · cases h
  case iand =>
    have e := s_res_pl rfl hr
    subst e
    obtain rfl := of_decide_eq_true hn
    replace h : s_i2 st _ _ ls = _ := h
    unfold s_i2 at h
    split at h
    · cases h
      exact lv_iand hx hb hd (kk _ hl)
    · cases h
  case ior =>
    have e := s_res_pl rfl hr
    subst e
    obtain rfl := of_decide_eq_true hn
    replace h : s_i2 st _ _ ls = _ := h
    unfold s_i2 at h
    split at h
    · cases h
      exact lv_ior hx hb hd (kk _ hl)
    · cases h
  case ixor =>
    have e := s_res_pl rfl hr
    subst e
    obtain rfl := of_decide_eq_true hn
    replace h : s_i2 st _ _ ls = _ := h
    unfold s_i2 at h
    split at h
    · cases h
      exact lv_ixor hx hb hd (kk _ hl)
    · cases h
  case ishl =>
    have e := s_res_pl rfl hr
    subst e
    obtain rfl := of_decide_eq_true hn
    replace h : s_i2 st _ _ ls = _ := h
    unfold s_i2 at h
    split at h
    · cases h
      exact lv_ishl hx hb hd (kk _ hl)
    · cases h
  case ishr =>
    have e := s_res_pl rfl hr
    subst e
    obtain rfl := of_decide_eq_true hn
    replace h : s_i2 st _ _ ls = _ := h
    unfold s_i2 at h
    split at h
    · cases h
      exact lv_ishr hx hb hd (kk _ hl)
    · cases h
  case iushr =>
    have e := s_res_pl rfl hr
    subst e
    obtain rfl := of_decide_eq_true hn
    replace h : s_i2 st _ _ ls = _ := h
    unfold s_i2 at h
    split at h
    · cases h
      exact lv_iushr hx hb hd rfl (kk _ hl)
    · cases h
  case idiv =>
    have e := s_res_pl rfl hr
    subst e
    obtain rfl := of_decide_eq_true hn
    unfold s_pure at h
    dsimp only at h
    split at h
    · rename_i y r9
      cases hy9 : decide (y = 0) with
      | true => rw [hy9] at h; cases h
      | false =>
        rw [hy9] at h
        have hy : ¬ y = 0 := of_decide_eq_false hy9
        replace h : s_i2 (.int y :: r9) _ _ ls = _ := h
        unfold s_i2 at h
        split at h
        · rename_i y2 x2 r2 heq9
          cases heq9
          cases h
          exact lv_idiv hx hb hd hy (kk _ hl)
        · cases h
    · cases h
  case irem =>
    have e := s_res_pl rfl hr
    subst e
    obtain rfl := of_decide_eq_true hn
    unfold s_pure at h
    dsimp only at h
    split at h
    · rename_i y r9
      cases hy9 : decide (y = 0) with
      | true => rw [hy9] at h; cases h
      | false =>
        rw [hy9] at h
        have hy : ¬ y = 0 := of_decide_eq_false hy9
        replace h : s_i2 (.int y :: r9) _ _ ls = _ := h
        unfold s_i2 at h
        split at h
        · rename_i y2 x2 r2 heq9
          cases heq9
          cases h
          exact lv_irem hx hb hd hy (kk _ hl)
        · cases h
    · cases h
  case ineg =>
    have e := s_res_pl rfl hr
    subst e
    obtain rfl := of_decide_eq_true hn
    replace h : s_i1 st _ _ ls = _ := h
    unfold s_i1 at h
    split at h
    · cases h
      exact lv_ineg hx hb hd (kk _ hl)
    · cases h
  case i2l =>
    have e := s_res_pl rfl hr
    subst e
    obtain rfl := of_decide_eq_true hn
    replace h : s_i1 st _ _ ls = _ := h
    unfold s_i1 at h
    split at h
    · cases h
      exact lv_i2l hx hb hd rfl (kk _ hl)
    · cases h
  case i2b =>
    have e := s_res_pl rfl hr
    subst e
    obtain rfl := of_decide_eq_true hn
    replace h : s_i1 st _ _ ls = _ := h
    unfold s_i1 at h
    split at h
    · cases h
      exact lv_i2b hx hb hd rfl (kk _ hl)
    · cases h
  case i2s =>
    have e := s_res_pl rfl hr
    subst e
    obtain rfl := of_decide_eq_true hn
    replace h : s_i1 st _ _ ls = _ := h
    unfold s_i1 at h
    split at h
    · cases h
      exact lv_i2s hx hb hd rfl (kk _ hl)
    · cases h
  case l2i =>
    have e := s_res_pl rfl hr
    subst e
    obtain rfl := of_decide_eq_true hn
    unfold s_pure at h
    dsimp only at h
    split at h
    · cases h
      exact lv_l2i hx hb hd rfl (kk _ hl)
    · cases h
  case lcmp =>
    have e := s_res_pl rfl hr
    subst e
    obtain rfl := of_decide_eq_true hn
    unfold s_pure at h
    dsimp only at h
    split at h
    · cases h
      exact W.lcmp hx hb hd (kk _ hl)
    · cases h
  case ladd =>
    have e := s_res_pl rfl hr
    subst e
    obtain rfl := of_decide_eq_true hn
    replace h : s_l2 st _ _ ls = _ := h
    unfold s_l2 at h
    split at h
    · cases h
      exact lv_ladd hx hb hd (kk _ hl)
    · cases h
  case lsub =>
    have e := s_res_pl rfl hr
    subst e
    obtain rfl := of_decide_eq_true hn
    replace h : s_l2 st _ _ ls = _ := h
    unfold s_l2 at h
    split at h
    · cases h
      exact lv_lsub hx hb hd (kk _ hl)
    · cases h
  case land =>
    have e := s_res_pl rfl hr
    subst e
    obtain rfl := of_decide_eq_true hn
    replace h : s_l2 st _ _ ls = _ := h
    unfold s_l2 at h
    split at h
    · cases h
      exact lv_land hx hb hd (kk _ hl)
    · cases h
  case lor =>
    have e := s_res_pl rfl hr
    subst e
    obtain rfl := of_decide_eq_true hn
    replace h : s_l2 st _ _ ls = _ := h
    unfold s_l2 at h
    split at h
    · cases h
      exact lv_lor hx hb hd (kk _ hl)
    · cases h
  case lshl =>
    have e := s_res_pl rfl hr
    subst e
    obtain rfl := of_decide_eq_true hn
    replace h : s_li st _ _ ls = _ := h
    unfold s_li at h
    split at h
    · cases h
      exact lv_lshl hx hb hd rfl (kk _ hl)
    · cases h
  case lushr =>
    have e := s_res_pl rfl hr
    subst e
    obtain rfl := of_decide_eq_true hn
    replace h : s_li st _ _ ls = _ := h
    unfold s_li at h
    split at h
    · cases h
      exact lv_lushr hx hb hd rfl (kk _ hl)
    · cases h
  case dup =>
    have e := s_res_pl rfl hr
    subst e
    obtain rfl := of_decide_eq_true hn
    unfold s_pure at h
    dsimp only at h
    split at h
    · rename_i v r9
      cases hv9 : Nat.beq v.category 1 with
      | true =>
        rw [hv9] at h
        cases h
        exact lv_dup hx hb hd ((s_tr_cat tt α v).trans (Nat.eq_of_beq_eq_true hv9)) (kk _ hl)
      | false => rw [hv9] at h; cases h
    · cases h
  case pop =>
    have e := s_res_pl rfl hr
    subst e
    obtain rfl := of_decide_eq_true hn
    unfold s_pure at h
    dsimp only at h
    split at h
    · rename_i v r9
      cases hv9 : Nat.beq v.category 1 with
      | true =>
        rw [hv9] at h
        cases h
        exact lv_pop hx hb hd ((s_tr_cat tt α v).trans (Nat.eq_of_beq_eq_true hv9)) (kk _ hl)
      | false => rw [hv9] at h; cases h
    · cases h
  case dup2 =>
    have e := s_res_pl rfl hr
    subst e
    obtain rfl := of_decide_eq_true hn
    unfold s_pure at h
    dsimp only at h
    split at h
    · rename_i v w r9
      cases hv9 : (Nat.beq v.category 1 && Nat.beq w.category 1) with
      | true =>
        rw [hv9] at h
        rw [Bool.and_eq_true] at hv9
        cases h
        exact lv_dup2_11 hx hb hd ((s_tr_cat tt α v).trans (Nat.eq_of_beq_eq_true hv9.1)) ((s_tr_cat tt α w).trans (Nat.eq_of_beq_eq_true hv9.2)) (kk _ hl)
      | false => rw [hv9] at h; cases h
    · cases h
  case goto off =>
    have e := s_res_pl rfl hr
    subst e
    obtain rfl := of_decide_eq_true hn
    obtain ⟨rfl, rfl, h9⟩ := s_jp_sp h
    exact lv_goto hx hb hd (s_tgt_eq h9) (kk _ hl)
  case ifCond cnd off =>
    have e := s_res_pl rfl hr
    subst e
    obtain rfl := of_decide_eq_true hn
    unfold s_pure at h
    dsimp only at h
    split at h
    · rename_i x r9
      obtain ⟨rfl, rfl, h9⟩ := s_br_sp h
      exact s_ifc hx hb hd h9 (kk _ hl)
    · cases h
  case if_icmp cnd off =>
    have e := s_res_pl rfl hr
    subst e
    obtain rfl := of_decide_eq_true hn
    unfold s_pure at h
    dsimp only at h
    split at h
    · rename_i y x r9
      obtain ⟨rfl, rfl, h9⟩ := s_br_sp h
      exact s_icc hx hb hd h9 (kk _ hl)
    · cases h
  case ifnull off =>
    have e := s_res_pl rfl hr
    subst e
    obtain rfl := of_decide_eq_true hn
    unfold s_pure at h
    dsimp only at h
    split at h
    · obtain ⟨rfl, rfl, h9⟩ := s_jp_sp h
      exact lv_ifnullN hx hb hd (s_tgt_eq h9) (kk _ hl)
    · cases h
      exact lv_ifnull hx hb hd (kk _ hl)
    · cases h
  case ifnonnull off =>
    have e := s_res_pl rfl hr
    subst e
    obtain rfl := of_decide_eq_true hn
    unfold s_pure at h
    dsimp only at h
    split at h
    · cases h
      exact lv_ifnonnullN hx hb hd (kk _ hl)
    · obtain ⟨rfl, rfl, h9⟩ := s_jp_sp h
      exact lv_ifnonnull hx hb hd (s_tgt_eq h9) (kk _ hl)
    · cases h
  case lookupswitch dflt ps =>
    have e := s_res_pl rfl hr
    subst e
    replace h : s_lkup dflt ps pc ls st = _ := h
    unfold s_lkup at h
    split at h
    · rename_i x r9
      cases hz9 : (ps.toList.zip (ps.toList.drop 1)).all (fun q => decide (q.1.1 < q.2.1)) with
      | true =>
        rw [hz9] at h
        obtain ⟨rfl, rfl, h9⟩ := s_jp_sp h
        exact lv_lookup hx hb hd hz9 rfl (s_tgt_eq h9) (kk _ hl)
      | false => rw [hz9] at h; cases h
    · cases h
  case tableswitch dflt lo hi offs =>
    have e := s_res_pl rfl hr
    subst e
    replace h : s_tsw dflt lo hi offs pc ls st = _ := h
    unfold s_tsw at h
    split at h
    · rename_i x r9
      cases hz9 : (decide (x.toInt < lo) || decide (hi < x.toInt)) with
      | true =>
        rw [hz9] at h
        obtain ⟨rfl, rfl, h9⟩ := s_jp_sp h
        have hz : x.toInt < lo ∨ hi < x.toInt := by simpa using hz9
        exact lv_tableOut hx hb hd hz (s_tgt_eq h9) (kk _ hl)
      | false =>
        rw [hz9] at h
        have hz : ¬ (x.toInt < lo ∨ hi < x.toInt) := by simpa using hz9
        dsimp only [cond_false] at h
        split at h
        · rename_i off ho
          obtain ⟨rfl, rfl, h9⟩ := s_jp_sp h
          exact lv_tableIn hx hb hd (fun q => hz (Or.inl q)) (fun q => hz (Or.inr q)) ho (s_tgt_eq h9) (kk _ hl)
        · cases h
    · cases h
  case getfield n =>
    obtain ⟨x9, rfl, hk9⟩ := s_res_getfield hr
    obtain rfl := of_decide_eq_true hn
    replace h : s_gf n _ ls st M = _ := h
    unfold s_gf at h
    split at h
    · rename_i a r9
      split at h
      · rename_i v hv9
        cases h
        obtain ⟨fs, h1, h2⟩ := s_fld_at hv9
        obtain ⟨C, T, N, g1, g2, g3, g4⟩ := s_kFat hk9
        have hlt : n / 64 < 12 := (List.getElem?_eq_some_iff.mp g1).1
        have h3 := s_img_at (cy := cy) (tt := tt) (α := α) h1
        rw [show s_im cy tt α (n / 64, fs) = .inr (n / 64, fs.map (s_tr tt α)) from if_pos hlt] at h3
        exact va_get hx hb hts (s_clok g1).1 hown hK.1 hP a h3 g1 (n % 64) g2 (hts _ g3) (fun x hx9 => by rw [g4] at hx9; exact hx9) (by rw [List.getElem?_map, h2]; rfl) hd (kk _ hl)
      · cases h
    · cases h
  case getstatic j =>
    obtain ⟨x9, rfl, hk9⟩ := s_res_getstatic hr
    obtain rfl := of_decide_eq_true hn
    obtain ⟨g1, g2⟩ := s_kSat hk9
    unfold s_pure at h
    dsimp only at h
    rw [show Nat.blt j 2 = true from Nat.ble_eq_true_of_le g1] at h
    cases h
    exact va_gets hx hb (hT.1 j g1) hS hown (hts _ g2) (fun _ h9 => h9) hd (kk _ hl)
  case iaload =>
    have e := s_res_pl rfl hr
    subst e
    obtain rfl := of_decide_eq_true hn
    replace h : s_ia E _ ls st M = _ := h
    unfold s_ia at h
    split at h
    · rename_i i a r9
      split at h
      · rename_i x hv9
        cases h
        obtain ⟨k, vs, h1, hk, h0, h2, h3⟩ := s_at_at hv9
        obtain rfl := Nat.eq_of_beq_eq_true hk
        have h4 := s_img_at (cy := cy) (tt := tt) (α := α) h1
        rw [s_im_i] at h4
        have e9 : s_iv vs i.toNatClampNeg = x := by simp [s_iv, h2]
        refine va_iald hx hb hK.1 hP a 1 h4 rfl h3 hd ?_
        rw [e9]
        exact kk _ hl
      · cases h
    · rename_i i j r9
      cases hz9 : (!decide (i < 0) && (Nat.blt i.toNatClampNeg (E j).1 && Nat.blt j (E 3).1)) with
      | true =>
        rw [hz9] at h
        cases h
        simp only [Bool.and_eq_true, Bool.not_eq_true', decide_eq_false_iff_not] at hz9
        have h1 : i.toNatClampNeg < (E j).1 := Nat.le_of_ble_eq_true hz9.2.1
        exact va_ti hx hb (hT.2 j (Nat.le_of_ble_eq_true hz9.2.2)) hS (fun q => q.elim hz9.1 (fun z => Nat.not_le.mpr h1 z)) rfl hd (kk _ hl)
      | false => rw [hz9] at h; cases h
    · cases h
  case saload =>
    have e := s_res_pl rfl hr
    subst e
    obtain rfl := of_decide_eq_true hn
    replace h : s_sa _ ls st M = _ := h
    unfold s_sa at h
    split at h
    · rename_i i a r9
      split at h
      · rename_i x hv9
        cases h
        obtain ⟨k, vs, h1, hk, h0, h2, h3⟩ := s_at_at hv9
        obtain rfl := Nat.eq_of_beq_eq_true hk
        have h4 := s_img_at (cy := cy) (tt := tt) (α := α) h1
        rw [s_im_s] at h4
        have e9 : s_iv vs i.toNatClampNeg = x := by simp [s_iv, h2]
        refine va_sald hx hb hK.1 hP a 3 h4 rfl h3 hd ?_
        rw [e9]
        exact kk _ hl
      · cases h
    · cases h
  case laload =>
    have e := s_res_pl rfl hr
    subst e
    obtain rfl := of_decide_eq_true hn
    replace h : s_la _ ls st M = _ := h
    unfold s_la at h
    split at h
    · rename_i i a r9
      split at h
      · rename_i x hv9
        cases h
        obtain ⟨k, vs, h1, hk, h0, h2, h3⟩ := s_at_at hv9
        obtain rfl := Nat.eq_of_beq_eq_true hk
        have h4 := s_img_at (cy := cy) (tt := tt) (α := α) h1
        rw [s_im_l] at h4
        have e9 : s_lv vs i.toNatClampNeg = x := by simp [s_lv, h2]
        refine va_lald hx hb hK.1 hP a 2 h4 rfl h3 hd ?_
        rw [e9]
        exact kk _ hl
      · cases h
    · cases h
  case baload =>
    have e := s_res_pl rfl hr
    subst e
    obtain rfl := of_decide_eq_true hn
    replace h : s_ba _ ls st M = _ := h
    unfold s_ba at h
    split at h
    · rename_i i a r9
      split at h
      · rename_i x hv9
        cases h
        obtain ⟨k, vs, h1, hk, h0, h2, h3⟩ := s_at_at hv9
        rcases (Bool.or_eq_true _ _).mp hk with hk | hk
        · obtain rfl := Nat.eq_of_beq_eq_true hk
          have h4 := s_img_at (cy := cy) (tt := tt) (α := α) h1
          rw [s_im_b] at h4
          have e9 : s_iv vs i.toNatClampNeg = x := by simp [s_iv, h2]
          refine va_bald hx hb hK.1 hP a 0 h4 rfl h3 hd ?_
          rw [e9]
          exact kk _ hl
        · obtain rfl := Nat.eq_of_beq_eq_true hk
          have h4 := s_img_at (cy := cy) (tt := tt) (α := α) h1
          rw [s_im_z] at h4
          have e9 : s_iv vs i.toNatClampNeg = x := by simp [s_iv, h2]
          refine va_zald hx hb hK.1 hP a 4 h4 rfl h3 hd ?_
          rw [e9]
          exact kk _ hl
      · cases h
    · cases h
  case aaload =>
    have e := s_res_pl rfl hr
    subst e
    obtain rfl := of_decide_eq_true hn
    replace h : s_aa _ ls st M = _ := h
    unfold s_aa at h
    split at h
    · rename_i i a r9
      split at h
      · rename_i x hv9
        cases h
        obtain ⟨k, vs, h1, hk, h0, h2, h3⟩ := s_at_at hv9
        have h4 := s_img_at (cy := cy) (tt := tt) (α := α) h1
        have hk17 : 17 ≤ k := Nat.le_of_ble_eq_true ((Bool.and_eq_true _ _).mp hk).1
        have hk19 : k ≤ 19 := Nat.le_of_ble_eq_true ((Bool.and_eq_true _ _).mp hk).2
        rw [s_im_q hk17] at h4
        obtain ⟨C9, hC9⟩ := s_tys_q (cy := cy) hk17 hk19
        refine va_aldq hx hb hK.1 hP a (k - 12) h4 hC9 h3 hd ?_
        rw [show s_qv α vs i.toNatClampNeg = some (α x) by simp [s_qv, h2]]
        exact kk _ hl
      · rename_i hv9
        cases h
        obtain ⟨k, vs, h1, hk, h0, h2, h3⟩ := s_at_at hv9
        have h4 := s_img_at (cy := cy) (tt := tt) (α := α) h1
        have hk17 : 17 ≤ k := Nat.le_of_ble_eq_true ((Bool.and_eq_true _ _).mp hk).1
        have hk19 : k ≤ 19 := Nat.le_of_ble_eq_true ((Bool.and_eq_true _ _).mp hk).2
        rw [s_im_q hk17] at h4
        obtain ⟨C9, hC9⟩ := s_tys_q (cy := cy) hk17 hk19
        refine va_aldq hx hb hK.1 hP a (k - 12) h4 hC9 h3 hd ?_
        rw [show s_qv α vs i.toNatClampNeg = none by simp [s_qv, h2]]
        exact kk _ hl
      · cases h
    · cases h
  case arraylength =>
    have e := s_res_pl rfl hr
    subst e
    obtain rfl := of_decide_eq_true hn
    replace h : s_len E _ ls st M = _ := h
    unfold s_len at h
    split at h
    · rename_i a r9
      split at h
      · rename_i q hq9
        cases hz9 : (Nat.ble 12 q.1 && Nat.ble q.1 19) with
        | true =>
          rw [hz9] at h
          cases h
          have h12 : 12 ≤ q.1 := Nat.le_of_ble_eq_true ((Bool.and_eq_true _ _).mp hz9).1
          have h19 : q.1 ≤ 19 := Nat.le_of_ble_eq_true ((Bool.and_eq_true _ _).mp hz9).2
          have h4 := s_img_at (cy := cy) (tt := tt) (α := α) hq9
          rw [show s_im cy tt α q = .inl (cy q.1, s_arr α q.1 q.2) from if_neg (Nat.not_lt.mpr h12)] at h4
          obtain ⟨ty9, h5⟩ := s_tys_at (cy := cy) h12 h19
          exact va_alen hx hb hK.1 hP a (q.1 - 12) h4 h5 rfl hd (kk _ hl)
        | false => rw [hz9] at h; cases h
      · cases h
    · rename_i j r9
      cases hz9 : Nat.blt j (E 3).1 with
      | true =>
        rw [hz9] at h
        cases h
        exact va_tlen hx hb (hT.2 j (Nat.le_of_ble_eq_true hz9)) hS rfl hd (kk _ hl)
      | false => rw [hz9] at h; cases h
    · cases h
  all_goals exact nomatch (show none = some _ from h)
end S9
end
section
/-! ONE STEP: an instruction that writes a cell, one that makes a cell -/
theorem s_res_putfield {o : Nat} {ini : Bool} {r : Jvm.ClassFile.Instr} {n : Nat} (h : s_res o ini r = some (.putfield n)) : ∃ x, r = .putfield x ∧ s_look s_tF o x = some n ∧ s_fin n = false := by
  cases r
  case putfield x =>
    unfold s_res at h
    dsimp only at h
    split at h
    · rename_i k hk
      cases hf : s_fin k with
      | true =>
        rw [hf] at h
        cases hg : (ini && decide (s_cn o = s_cn (k / 64))) with
        | true => rw [hg] at h; cases h
        | false => rw [hg] at h; cases h
      | false =>
        rw [hf] at h
        cases h
        exact ⟨x, rfl, hk, hf⟩
    · cases h
  case invokestatic x =>
    exfalso
    unfold s_res at h
    dsimp only at h
    split at h
    · cases h
    · split at h
      · cases h
      · rw [Option.map_eq_some_iff] at h
        obtain ⟨n, -, e⟩ := h
        cases e
  all_goals first
    | (exfalso; exact nomatch (show some _ = some (Jvm.ClassFile.Instr.putfield n) from h))
    | (exfalso; exact nomatch (show none = some (Jvm.ClassFile.Instr.putfield n) from h))
    | (exfalso
       unfold s_res at h
       dsimp only at h
       rw [Option.map_eq_some_iff] at h
       obtain ⟨k, hk, e⟩ := h
       cases e)
theorem s_res_putstatic {o : Nat} {ini : Bool} {r : Jvm.ClassFile.Instr} {n : Nat} (h : s_res o ini r = some (.putstatic n)) : ∃ x, r = .putfield x ∧ s_look s_tF o x = some n ∧ s_fin n = true ∧ ini = true ∧ s_cn o = s_cn (n / 64) := by
  cases r
  case putfield x =>
    unfold s_res at h
    dsimp only at h
    split at h
    · rename_i k hk
      cases hf : s_fin k with
      | true =>
        rw [hf] at h
        cases hg : (ini && decide (s_cn o = s_cn (k / 64))) with
        | true =>
          rw [hg] at h
          cases h
          rw [Bool.and_eq_true] at hg
          exact ⟨x, rfl, hk, hf, hg.1, of_decide_eq_true hg.2⟩
        | false => rw [hg] at h; cases h
      | false => rw [hf] at h; cases h
    · cases h
  case invokestatic x =>
    exfalso
    unfold s_res at h
    dsimp only at h
    split at h
    · cases h
    · split at h
      · cases h
      · rw [Option.map_eq_some_iff] at h
        obtain ⟨n, -, e⟩ := h
        cases e
  all_goals first
    | (exfalso; exact nomatch (show some _ = some (Jvm.ClassFile.Instr.putstatic n) from h))
    | (exfalso; exact nomatch (show none = some (Jvm.ClassFile.Instr.putstatic n) from h))
    | (exfalso
       unfold s_res at h
       dsimp only at h
       rw [Option.map_eq_some_iff] at h
       obtain ⟨k, hk, e⟩ := h
       cases e)
theorem s_fit_ok {tt α : Nat → Nat} {ty : FieldType} {v : Value} (h : s_fit ty v = true) : narrow ty (s_tr tt α v) = s_tr tt α v ∧ fits ty (s_tr tt α v) = true := by
  unfold s_fit at h
  split at h
  all_goals first
    | exact ⟨rfl, rfl⟩
    | (rcases (Bool.or_eq_true _ _).mp h with h | h <;> (have e := of_decide_eq_true h; subst e; first | exact ⟨narrow_b0, rfl⟩ | exact ⟨narrow_b1, rfl⟩))
    | cases h
theorem s_ps_sp {M : sM} {a : Nat} {i : Int32} {v : Value} {ok : Nat → Bool} {r r' : List Value} {M' : sM} (h : s_ps M a i v ok r = some (r', M')) : ∃ k vs, M[a]? = some (k, vs) ∧ ok k = true ∧ ¬ i < 0 ∧ i.toNatClampNeg < vs.length ∧ vp_in i vs.length ∧ r' = r ∧ M' = M.set a (k, vs.set i.toNatClampNeg v) := by
  unfold s_ps at h
  split at h
  · rename_i c hc
    cases hb : (ok c.1 && (!decide (i < 0) && Nat.blt i.toNatClampNeg c.2.length)) with
    | true =>
      rw [hb] at h
      simp only [Bool.and_eq_true, Bool.not_eq_true', decide_eq_false_iff_not] at hb
      have hlt : i.toNatClampNeg < c.2.length := Nat.le_of_ble_eq_true hb.2.2
      cases h
      exact ⟨c.1, c.2, hc, hb.1, hb.2.1, hlt, fun q => q.elim hb.2.1 (fun z => Nat.not_le.mpr hlt z), rfl, rfl⟩
    | false => rw [hb] at h; cases h
  · cases h
theorem s_iv_set {vs : List Value} {j : Nat} {x : Int32} (h : j < vs.length) : upd (s_iv vs) j x = s_iv (vs.set j (.int x)) := by
  funext k
  unfold upd s_iv
  by_cases hk : k = j
  · subst hk; simp [h]
  · rw [if_neg hk, List.getElem?_set_ne (fun q => hk q.symm)]
theorem s_lv_set {vs : List Value} {j : Nat} {x : Int64} (h : j < vs.length) : vp_updL (s_lv vs) j x = s_lv (vs.set j (.long x)) := by
  funext k
  unfold vp_updL s_lv
  by_cases hk : k = j
  · subst hk; simp [h]
  · rw [if_neg hk, List.getElem?_set_ne (fun q => hk q.symm)]
theorem s_qv_set {α : Nat → Nat} {vs : List Value} {j : Nat} {x : Nat} (h : j < vs.length) : va_up (s_qv α vs) j (some (α x)) = s_qv α (vs.set j (.ref x)) := by
  funext k
  unfold va_up s_qv
  by_cases hk : k = j
  · subst hk; simp [h]
  · rw [if_neg hk, List.getElem?_set_ne (fun q => hk q.symm)]
section S10
variable {p : Program} {l : Launch} {e : Env} {R : Room} {s : State} {m : MethodId} {args : Array Value} {below : List Frame} {meth : Method} {c : Code} {H : Heap} {locs : List Loc} {cells slots : Nat} {Q : State → Prop}
variable {own mx : Nat} {ini : Bool} {cc : ByteArray} {D : va_G} {cy tt α : Nat → Nat} {E : sE} {A : Nat → Prop} {M : sM}
set_option maxHeartbeats 4000000 in
theorem s_simW (hF : s_Fr p s m args meth c own ini cc mx) (hK : s_Kx D cy s) (hP : va_P D vwCl (s_img cy tt α M) H) (hD : va_D A (s_img cy tt α M)) (hS : va_S A s.heap H locs) {st : List Value} {lsR : Array Slot} {pc len : Nat} {i r : Jvm.ClassFile.Instr} (hd : decode cc pc = .ok (r, len)) (hr : s_res own ini r = some i) (hn : s_ln2 i len = true) {st' : List Value} {M' : sM} (h : s_wr s_fty i st M = some (st', M'))
    (kk : ∀ (H1 : Heap) (locs1 : List Loc), va_P D vwCl (s_img cy tt α M') H1 → va_D A (s_img cy tt α M') → va_S A s.heap H1 locs1 → W p l e R s m args below meth c H1 locs1 cells slots Q (F0 m (pc + len) lsR (st'.map (s_tr tt α)))) : W p l e R s m args below meth c H locs cells slots Q (F0 m pc lsR (st.map (s_tr tt α))) := by
  obtain ⟨hx, hb, hml, hown, hts, hin⟩ := hF
  cases i
  case putfield n =>
    obtain ⟨x9, rfl, hk9, hf9⟩ := s_res_putfield hr
    obtain rfl := of_decide_eq_true hn
    replace h : s_pf s_fty n st M = _ := h
    unfold s_pf at h
    split at h
    · rename_i v a r9
      split at h
      · rename_i q hq
        cases hz : (Nat.beq q.1 (n / 64) && (s_fit (s_fty (n / 64) (n % 64)) v && Nat.blt (n % 64) q.2.length)) with
        | true =>
          rw [hz] at h
          simp only [Bool.and_eq_true] at hz
          obtain ⟨k, fs⟩ := q
          have e1 : k = n / 64 := Nat.eq_of_beq_eq_true hz.1
          subst e1
          have hlt : n % 64 < fs.length := Nat.le_of_ble_eq_true hz.2.2
          cases h
          obtain ⟨C, T, N, g1, g2, g3, g4⟩ := s_kFat hk9
          obtain ⟨c1, c2, c3, c4, c5, c6, c7⟩ := s_clok g1
          have h12 : n / 64 < 12 := (List.getElem?_eq_some_iff.mp g1).1
          have h3 := s_img_at (cy := cy) (tt := tt) (α := α) hq
          rw [show s_im cy tt α (n / 64, fs) = .inr (n / 64, fs.map (s_tr tt α)) from if_pos h12] at h3
          have hfi : (T (n % 64)).2.2.2 = false := by
            have h5 := hf9
            unfold s_fin at h5
            rw [g1] at h5
            exact h5
          refine va_put hx hb hts c1 (s_fty (n / 64)) c2 c3 hown hK.1 hP hD hS a h3 g1 (n % 64) g2 (hts _ g3) (fun x hx9 => by rw [g4] at hx9; exact hx9) hfi (c2 _ g2) (s_fit_ok hz.2.1).1 (s_fit_ok hz.2.1).2 (by rw [List.length_map]; exact hlt) hd (fun H1 locs1 hP1 hD1 hS1 => ?_)
          have e2 : (s_img cy tt α M).set a (α a, .inr (n / 64, (fs.map (s_tr tt α)).set (n % 64) (s_tr tt α v))) = s_img cy tt α (M.set a (n / 64, fs.set (n % 64) v)) := by
            rw [← s_img_set, show s_im cy tt α (n / 64, fs.set (n % 64) v) = .inr (n / 64, (fs.set (n % 64) v).map (s_tr tt α)) from if_pos h12, List.map_set]
          rw [e2] at hP1 hD1
          exact kk H1 locs1 hP1 hD1 hS1
        | false => rw [hz] at h; cases h
      · cases h
    · cases h
  case putstatic n =>
    obtain ⟨x9, rfl, hk9, hf9, hi9, ho9⟩ := s_res_putstatic hr
    obtain rfl := of_decide_eq_true hn
    replace h : s_pf s_fty n st M = _ := h
    unfold s_pf at h
    split at h
    · rename_i v a r9
      split at h
      · rename_i q hq
        cases hz : (Nat.beq q.1 (n / 64) && (s_fit (s_fty (n / 64) (n % 64)) v && Nat.blt (n % 64) q.2.length)) with
        | true =>
          rw [hz] at h
          simp only [Bool.and_eq_true] at hz
          obtain ⟨k, fs⟩ := q
          have e1 : k = n / 64 := Nat.eq_of_beq_eq_true hz.1
          subst e1
          have hlt : n % 64 < fs.length := Nat.le_of_ble_eq_true hz.2.2
          cases h
          obtain ⟨C, T, N, g1, g2, g3, g4⟩ := s_kFat hk9
          obtain ⟨c1, c2, c3, c4, c5, c6, c7⟩ := s_clok g1
          have h12 : n / 64 < 12 := (List.getElem?_eq_some_iff.mp g1).1
          have h3 := s_img_at (cy := cy) (tt := tt) (α := α) hq
          rw [show s_im cy tt α (n / 64, fs) = .inr (n / 64, fs.map (s_tr tt α)) from if_pos h12] at h3
          have hfi : (T (n % 64)).2.2.2 = true := by
            have h5 := hf9
            unfold s_fin at h5
            rw [g1] at h5
            exact h5
          refine va_putF hx hb hts c1 (s_fty (n / 64)) c2 c3 hown hK.1 hP hD hS a h3 g1 (n % 64) g2 (hts _ g3) (fun x hx9 => by rw [g4] at hx9; exact hx9) hfi (hin hi9) (by rw [g4, ho9, c7]) (c2 _ g2) (s_fit_ok hz.2.1).1 (s_fit_ok hz.2.1).2 (by rw [List.length_map]; exact hlt) hd (fun H1 locs1 hP1 hD1 hS1 => ?_)
          have e2 : (s_img cy tt α M).set a (α a, .inr (n / 64, (fs.map (s_tr tt α)).set (n % 64) (s_tr tt α v))) = s_img cy tt α (M.set a (n / 64, fs.set (n % 64) v)) := by
            rw [← s_img_set, show s_im cy tt α (n / 64, fs.set (n % 64) v) = .inr (n / 64, (fs.set (n % 64) v).map (s_tr tt α)) from if_pos h12, List.map_set]
          rw [e2] at hP1 hD1
          exact kk H1 locs1 hP1 hD1 hS1
        | false => rw [hz] at h; cases h
      · cases h
    · cases h
  case iastore =>
    have e := s_res_pl rfl hr
    subst e
    obtain rfl := of_decide_eq_true hn
    unfold s_wr at h
    dsimp only at h
    split at h
    · rename_i x j a r9
      obtain ⟨k, vs, h1, hk, h0, h2, h3, rfl, rfl⟩ := s_ps_sp h
      obtain rfl := Nat.eq_of_beq_eq_true hk
      have h4 := s_img_at (cy := cy) (tt := tt) (α := α) h1
      rw [s_im_i] at h4
      refine va_iast hx hb hK.1 hP hD hS a 1 h4 rfl h3 hd (fun H1 locs1 hP1 hD1 hS1 => ?_)
      rw [s_iv_set h2, ← List.length_set (as := vs) (i := j.toNatClampNeg) (a := Value.int x), ← s_im_i (tt := tt) (α := α), s_img_set] at hP1 hD1
      exact kk H1 locs1 hP1 hD1 hS1
    · cases h
  case sastore =>
    have e := s_res_pl rfl hr
    subst e
    obtain rfl := of_decide_eq_true hn
    unfold s_wr at h
    dsimp only at h
    split at h
    · rename_i x j a r9
      obtain ⟨k, vs, h1, hk, h0, h2, h3, rfl, rfl⟩ := s_ps_sp h
      obtain rfl := Nat.eq_of_beq_eq_true hk
      have h4 := s_img_at (cy := cy) (tt := tt) (α := α) h1
      rw [s_im_s] at h4
      refine va_sast hx hb hK.1 hP hD hS a 3 h4 rfl h3 hd (fun H1 locs1 hP1 hD1 hS1 => ?_)
      rw [s_iv_set h2, ← List.length_set (as := vs) (i := j.toNatClampNeg) (a := Value.int (vp_nar .short x)), ← s_im_s (tt := tt) (α := α), s_img_set] at hP1 hD1
      exact kk H1 locs1 hP1 hD1 hS1
    · cases h
  case lastore =>
    have e := s_res_pl rfl hr
    subst e
    obtain rfl := of_decide_eq_true hn
    unfold s_wr at h
    dsimp only at h
    split at h
    · rename_i x j a r9
      obtain ⟨k, vs, h1, hk, h0, h2, h3, rfl, rfl⟩ := s_ps_sp h
      obtain rfl := Nat.eq_of_beq_eq_true hk
      have h4 := s_img_at (cy := cy) (tt := tt) (α := α) h1
      rw [s_im_l] at h4
      refine va_last hx hb hK.1 hP hD hS a 2 h4 rfl h3 hd (fun H1 locs1 hP1 hD1 hS1 => ?_)
      rw [s_lv_set h2, ← List.length_set (as := vs) (i := j.toNatClampNeg) (a := Value.long x), ← s_im_l (tt := tt) (α := α), s_img_set] at hP1 hD1
      exact kk H1 locs1 hP1 hD1 hS1
    · cases h
  case bastore =>
    have e := s_res_pl rfl hr
    subst e
    obtain rfl := of_decide_eq_true hn
    unfold s_wr at h
    dsimp only at h
    split at h
    · rename_i x j a r9
      cases hz : Nat.beq (s_kd M a) 12 with
      | true =>
        rw [hz, cond_true] at h
        obtain ⟨k, vs, h1, hk, h0, h2, h3, rfl, rfl⟩ := s_ps_sp h
        obtain rfl := Nat.eq_of_beq_eq_true hk
        have h4 := s_img_at (cy := cy) (tt := tt) (α := α) h1
        rw [s_im_b] at h4
        refine va_bast hx hb hK.1 hP hD hS a 0 h4 rfl h3 hd (fun H1 locs1 hP1 hD1 hS1 => ?_)
        rw [s_iv_set h2, ← List.length_set (as := vs) (i := j.toNatClampNeg) (a := Value.int (vp_nar .byte x)), ← s_im_b (tt := tt) (α := α), s_img_set] at hP1 hD1
        exact kk H1 locs1 hP1 hD1 hS1
      | false =>
        rw [hz, cond_false] at h
        obtain ⟨k, vs, h1, hk, h0, h2, h3, rfl, rfl⟩ := s_ps_sp h
        obtain rfl := Nat.eq_of_beq_eq_true hk
        have h4 := s_img_at (cy := cy) (tt := tt) (α := α) h1
        rw [s_im_z] at h4
        refine va_zast hx hb hK.1 hP hD hS a 4 h4 rfl h3 hd (fun H1 locs1 hP1 hD1 hS1 => ?_)
        rw [s_iv_set h2, ← List.length_set (as := vs) (i := j.toNatClampNeg) (a := Value.int (vp_nar .boolean x)), ← s_im_z (tt := tt) (α := α), s_img_set] at hP1 hD1
        exact kk H1 locs1 hP1 hD1 hS1
    · cases h
  case aastore =>
    have e := s_res_pl rfl hr
    subst e
    obtain rfl := of_decide_eq_true hn
    unfold s_wr at h
    dsimp only at h
    split at h
    · rename_i v j a r9
      obtain ⟨k, vs, h1, hk, h0, h2, h3, rfl, rfl⟩ := s_ps_sp h
      have hkk : ∃ (ci : Nat) (q : vw_C) (fs : List Value), 17 ≤ k ∧ k ≤ 19 ∧ ci < 12 ∧ M[v]? = some (ci, fs) ∧ vwCl[ci]? = some q ∧ (s_tys cy)[k - 12]? = some (cy k, .object q.1) := by
        have hkd : ∀ z, Nat.beq (s_kd M v) z = true → z < 12 → ∃ fs, M[v]? = some (z, fs) := by
          intro z hz hz2
          have hz := Nat.eq_of_beq_eq_true hz
          unfold s_kd at hz
          split at hz
          · rename_i c9 hc9
            exact ⟨c9.2, by rw [hc9, ← hz]⟩
          · omega
        simp only [Bool.or_eq_true, Bool.and_eq_true] at hk
        rcases hk with ⟨hk, hv⟩ | ⟨hk, hv⟩ | ⟨hk, hv⟩ <;> (obtain rfl := Nat.eq_of_beq_eq_true hk; obtain ⟨fs, hfs⟩ := hkd _ hv (by decide); exact ⟨_, _, fs, by decide, by decide, by decide, hfs, rfl, rfl⟩)
      obtain ⟨ci, q, fs, k17, k19, hci, hM9, hc9, ht9⟩ := hkk
      have h4 := s_img_at (cy := cy) (tt := tt) (α := α) h1
      rw [s_im_q k17] at h4
      have h5 := s_img_at (cy := cy) (tt := tt) (α := α) hM9
      rw [show s_im cy tt α (ci, fs) = .inr (ci, fs.map (s_tr tt α)) from if_pos hci] at h5
      refine va_astq hx hb hK.1 hP hD hS a (k - 12) v ci h4 ht9 h5 hc9 h3 hd (fun H1 locs1 hP1 hD1 hS1 => ?_)
      rw [s_qv_set h2, ← List.length_set (as := vs) (i := j.toNatClampNeg) (a := Value.ref v), ← s_im_q (tt := tt) (α := α) k17, s_img_set] at hP1 hD1
      exact kk H1 locs1 hP1 hD1 hS1
    · cases h
  all_goals exact nomatch (show none = some _ from h)
end S10
end
section
/-! ONE STEP: a copy; an instruction that makes a cell -/
theorem s_iv_cpy {a b : List Value} {sp dp n : Nat} (h1 : sp + n ≤ a.length) (h2 : dp + n ≤ b.length) : va_cpy (s_iv a) (s_iv b) sp dp n = s_iv (s_cpy a b sp dp n) := by
  funext k
  unfold va_cpy s_iv s_cpy
  by_cases hk : dp ≤ k ∧ k < dp + n
  · rw [if_pos hk, List.getElem?_append_right (by simp; omega), List.getElem?_append_left (by simp; omega)]
    have e : k - (b.take dp).length = k - dp := by simp; omega
    rw [e, List.getElem?_take_of_lt (by omega), List.getElem?_drop]
  · rw [if_neg hk]
    by_cases hl : k < dp
    · rw [List.getElem?_append_left (by simp; omega), List.getElem?_take_of_lt hl]
    · rw [List.getElem?_append_right (by simp; omega), List.getElem?_append_right (by simp; omega), List.getElem?_drop]
      have e : dp + n + (k - (b.take dp).length - ((a.drop sp).take n).length) = k := by simp; omega
      rw [e]
theorem s_lv_cpy {a b : List Value} {sp dp n : Nat} (h1 : sp + n ≤ a.length) (h2 : dp + n ≤ b.length) : va_cpy (s_lv a) (s_lv b) sp dp n = s_lv (s_cpy a b sp dp n) := by
  funext k
  unfold va_cpy s_lv s_cpy
  by_cases hk : dp ≤ k ∧ k < dp + n
  · rw [if_pos hk, List.getElem?_append_right (by simp; omega), List.getElem?_append_left (by simp; omega)]
    have e : k - (b.take dp).length = k - dp := by simp; omega
    rw [e, List.getElem?_take_of_lt (by omega), List.getElem?_drop]
  · rw [if_neg hk]
    by_cases hl : k < dp
    · rw [List.getElem?_append_left (by simp; omega), List.getElem?_take_of_lt hl]
    · rw [List.getElem?_append_right (by simp; omega), List.getElem?_append_right (by simp; omega), List.getElem?_drop]
      have e : dp + n + (k - (b.take dp).length - ((a.drop sp).take n).length) = k := by simp; omega
      rw [e]
theorem s_cpy_len {a b : List Value} {sp dp n : Nat} (h1 : sp + n ≤ a.length) (h2 : dp + n ≤ b.length) : (s_cpy a b sp dp n).length = b.length := by
  unfold s_cpy
  simp
  omega
theorem s_ac_sp {st : List Value} {M : sM} {r' : List Value} {M' : sM} (h : s_ac st M = some (r', M')) : ∃ n dp b sp a k va vb, st = .int n :: .int dp :: .ref b :: .int sp :: .ref a :: r' ∧ M[a]? = some (k, va) ∧ M[b]? = some (k, vb) ∧ (k = 13 ∨ k = 14) ∧ ¬ sp < 0 ∧ ¬ dp < 0 ∧ ¬ n < 0 ∧ sp.toNatClampNeg + n.toNatClampNeg ≤ va.length ∧ dp.toNatClampNeg + n.toNatClampNeg ≤ vb.length ∧ (r'.map fun v => v.category).sum ≤ 8 ∧ M' = M.set b (k, s_cpy va vb sp.toNatClampNeg dp.toNatClampNeg n.toNatClampNeg) := by
  unfold s_ac at h
  split at h
  · rename_i n dp b sp a r
    split at h
    · rename_i ca cb hca hcb
      cases hz : ((Nat.beq ca.1 cb.1 && (Nat.beq ca.1 13 || Nat.beq ca.1 14)) && ((!decide (sp < 0) && (!decide (dp < 0) && !decide (n < 0))) && (Nat.ble (sp.toNatClampNeg + n.toNatClampNeg) ca.2.length && Nat.ble (dp.toNatClampNeg + n.toNatClampNeg) cb.2.length)) && Nat.ble (r.map fun v => v.category).sum 8) with
      | true =>
        rw [hz] at h
        simp only [Bool.and_eq_true, Bool.or_eq_true, Bool.not_eq_true', decide_eq_false_iff_not] at hz
        obtain ⟨⟨⟨z1, z2⟩, ⟨z3, z4, z5⟩, z6, z7⟩, z8⟩ := hz
        obtain ⟨ka, va⟩ := ca
        obtain ⟨kb, vb⟩ := cb
        have e1 : ka = kb := Nat.eq_of_beq_eq_true z1
        subst e1
        cases h
        exact ⟨n, dp, b, sp, a, ka, va, vb, rfl, hca, hcb, z2.imp Nat.eq_of_beq_eq_true Nat.eq_of_beq_eq_true, z3, z4, z5, Nat.le_of_ble_eq_true z6, Nat.le_of_ble_eq_true z7, Nat.le_of_ble_eq_true z8, rfl⟩
      | false => rw [hz] at h; cases h
    · cases h
  · cases h
theorem s_dv_ok : ∀ k, k < 12 → ∀ q, s_ft[k]? = some q → ∀ j, j < q.1 → defaultValue (q.2 j) = s_dv (q.2 j) := by
  intro k hk q hq
  match k, hk, hq with
  | 0, _, h => cases h; decide +kernel
  | 1, _, h => cases h; decide +kernel
  | 2, _, h => cases h; decide +kernel
  | 3, _, h => cases h; decide +kernel
  | 4, _, h => cases h; decide +kernel
  | 5, _, h => cases h; decide +kernel
  | 6, _, h => cases h; decide +kernel
  | 7, _, h => cases h; decide +kernel
  | 8, _, h => cases h; decide +kernel
  | 9, _, h => cases h; decide +kernel
  | 10, _, h => cases h; decide +kernel
  | 11, _, h => cases h; decide +kernel
theorem s_dv_tr {tt α : Nat → Nat} (ty : FieldType) : s_tr tt α (s_dv ty) = s_dv ty := by cases ty <;> rfl
theorem s_dv_vok {n : Nat} (ty : FieldType) : s_vok n (s_dv ty) := by cases ty <;> (intro a h; cases h)
theorem s_iv_rep {N : Nat} : s_iv (List.replicate N (.int 0)) = fun _ => 0 := by
  funext j
  unfold s_iv
  rw [List.getElem?_replicate]
  by_cases h : j < N
  · rw [if_pos h]
  · rw [if_neg h]
theorem s_lv_rep {N : Nat} : s_lv (List.replicate N (.long 0)) = fun _ => 0 := by
  funext j
  unfold s_lv
  rw [List.getElem?_replicate]
  by_cases h : j < N
  · rw [if_pos h]
  · rw [if_neg h]
theorem s_qv_rep {α : Nat → Nat} {N : Nat} : s_qv α (List.replicate N .null) = fun _ => none := by
  funext j
  unfold s_qv
  rw [List.getElem?_replicate]
  by_cases h : j < N
  · rw [if_pos h]
  · rw [if_neg h]
theorem s_kCat {o x k : Nat} (h : s_look s_tC o x = some k) : ∃ C T N, vwCl[k]? = some (C, T, N) ∧ (Cond.classLink (s_cn o) x C) ∈ s_G := by
  obtain ⟨p, hp⟩ := s_look_mem h
  have h1 := List.all_eq_true.mp s_kC_ok _ hp
  unfold s_kC at h1
  dsimp only at h1
  split at h1
  · rename_i c hc
    simp only [decide_eq_true_eq] at h1
    exact ⟨c.1, c.2.1, c.2.2, hc, s_atG h1 rfl⟩
  · cases h1
theorem s_kAat {o x k : Nat} (h : s_look s_tA o x = some k) : 17 ≤ k ∧ k ≤ 19 ∧ (Cond.classLink (s_cn o) x (s_ac0 k)) ∈ s_G := by
  obtain ⟨p, hp⟩ := s_look_mem h
  have h1 := List.all_eq_true.mp s_kA_ok _ hp
  unfold s_kA at h1
  simp only [Bool.and_eq_true, decide_eq_true_eq] at h1
  exact ⟨h1.2.1, h1.2.2, s_atG h1.1 rfl⟩
theorem s_na_sp {k : Nat} {v : Value} {n : Int32} {r r' : List Value} {M M' : sM} (h : s_na k v n r M = some (r', M')) : ¬ n < 0 ∧ n.toNatClampNeg ≤ 100000 ∧ r' = .ref M.length :: r ∧ M' = M ++ [(k, List.replicate n.toNatClampNeg v)] := by
  unfold s_na at h
  cases hz : (!decide (n < 0) && Nat.ble n.toNatClampNeg 100000) with
  | true =>
    rw [hz] at h
    simp only [Bool.and_eq_true, Bool.not_eq_true', decide_eq_false_iff_not] at hz
    cases h
    exact ⟨hz.1, Nat.le_of_ble_eq_true hz.2, rfl, rfl⟩
  | false => rw [hz] at h; cases h
theorem s_RA_inj {U : State} {a b : ClassId} {ty : FieldType} (h1 : va_RA U a ty) (h2 : va_RA U b ty) : a = b := by
  cases ty with
  | object C =>
    obtain ⟨-, -, -, -, -, e1⟩ := h1
    obtain ⟨-, -, -, -, -, e2⟩ := h2
    rw [e1] at e2
    exact Option.some.inj e2
  | _ =>
    have e1 : U.vm.findClass _ = some a := h1
    have e2 : U.vm.findClass _ = some b := h2
    rw [e1] at e2
    exact Option.some.inj e2
def s_newslots (M M' : sM) : Nat := match M'[M.length]? with
  | some c => c.2.length
  | none => 0
section S11
variable {p : Program} {l : Launch} {e : Env} {R : Room} {s : State} {m : MethodId} {args : Array Value} {below : List Frame} {meth : Method} {c : Code} {H : Heap} {locs : List Loc} {cells slots : Nat} {Q : State → Prop}
variable {own mx : Nat} {ini : Bool} {cc : ByteArray} {D : va_G} {cy tt α : Nat → Nat} {E : sE} {A : Nat → Prop} {M : sM}
theorem s_arrNew (hF : s_Fr p s m args meth c own ini cc mx) (hK : s_Kx D cy s) (hP : va_P D vwCl (s_img cy tt α M) H) (hD : va_D A (s_img cy tt α M)) (hS : va_S A s.heap H locs) (hA : ∀ q, s.heap.size ≤ q → A q) (hM : s_Mok M.length M) {rest : List Value} {lsR : Array Slot} {pc : Nat} {t : ArrayType} {n : Int32} {a0 : vp_A} {k : Nat} {v : Value} {ty : FieldType} (hty : newarray.typeOf t = ty) (htys : (s_tys cy)[k - 12]? = some (cy k, ty)) (hw : Cond.arrayClass ty ∈ s_G)
    (ha : ∀ cA : ClassId, vp_cell cA a0 = arrV cA n.toNatClampNeg (fun _ => defaultValue ty)) (him : s_im cy tt α (k, List.replicate n.toNatClampNeg v) = .inl (cy k, a0)) (hv : ∀ j, s_vok j v) (hn : ¬ n < 0) (hbytes : n.toNatClampNeg * componentBytes ty ≤ 536870912) (hcells : cells + 1 ≤ R.cells) (hslots : slots + n.toNatClampNeg ≤ R.slots) (hd : decode cc pc = .ok (.newarray t, 2))
    (kk : ∀ (q : Nat) (H1 : Heap), va_P D vwCl (s_img cy tt (s_up α M.length q) (M ++ [(k, List.replicate n.toNatClampNeg v)])) H1 → va_D A (s_img cy tt (s_up α M.length q) (M ++ [(k, List.replicate n.toNatClampNeg v)])) → va_S A s.heap H1 locs → W p l e R s m args below meth c H1 locs (cells + 1) (slots + n.toNatClampNeg) Q (F0 m (pc + 2) lsR (.ref q :: rest))) : W p l e R s m args below meth c H locs cells slots Q (F0 m pc lsR (.int n :: rest)) := by
  obtain ⟨hx, hb, hml, hown, hts, hin⟩ := hF
  refine va_newa hx hb (hts _ (by rw [hty]; exact hw)) hty hK.1 hP hD hS hA ha hn rfl hbytes hcells hslots hd (fun q cA H1 hK1 hP1 hD1 hS1 => ?_)
  have e1 := (hK1.2 8 (cA, ty) rfl).2
  have e2 := (hK.1.2 _ _ htys).2
  have e3 : cA = cy k := s_RA_inj e1 e2
  subst e3
  have hlk : s_lok M.length (k, List.replicate n.toNatClampNeg v).2 := fun w hw => by rw [(List.mem_replicate.mp hw).2]; exact hv _
  rw [← him, s_img_push hM hlk] at hP1 hD1
  exact kk q H1 hP1 hD1 hS1
set_option maxHeartbeats 4000000 in
theorem s_simA (hF : s_Fr p s m args meth c own ini cc mx) (hK : s_Kx D cy s) (hP : va_P D vwCl (s_img cy tt α M) H) (hD : va_D A (s_img cy tt α M)) (hS : va_S A s.heap H locs) (hA : ∀ q, s.heap.size ≤ q → A q) (hM : s_Mok M.length M) {st : List Value} (hst : s_lok M.length st) {lsR : Array Slot} {pc len : Nat} {i r : Jvm.ClassFile.Instr} (hd : decode cc pc = .ok (r, len)) (hr : s_res own ini r = some i) (hn : s_ln2 i len = true) {st' : List Value} {M' : sM} (h : s_al s_ft i st M = some (st', M')) (hcells : cells + 1 ≤ R.cells) (hslots : slots + s_newslots M M' ≤ R.slots)
    (kk : ∀ (q : Nat) (H1 : Heap), va_P D vwCl (s_img cy tt (s_up α M.length q) M') H1 → va_D A (s_img cy tt (s_up α M.length q) M') → va_S A s.heap H1 locs → W p l e R s m args below meth c H1 locs (cells + 1) (slots + s_newslots M M') Q (F0 m (pc + len) lsR (st'.map (s_tr tt (s_up α M.length q))))) : W p l e R s m args below meth c H locs cells slots Q (F0 m pc lsR (st.map (s_tr tt α))) := by
  have hF0 := hF
  obtain ⟨hx, hb, hml, hown, hts, hin⟩ := hF
  have hnew : ∀ (c0 : sC), s_newslots M (M ++ [c0]) = c0.2.length := fun c0 => by simp [s_newslots]
  have hup : ∀ (q : Nat) (l0 : List Value), s_lok M.length l0 → (Value.ref M.length :: l0).map (s_tr tt (s_up α M.length q)) = .ref q :: l0.map (s_tr tt α) := fun q l0 h0 => by
    rw [List.map_cons, s_trs_eq (fun i hi => s_up_ne hi) h0]
    refine congrArg (fun z => z :: _) ?_
    show Value.ref (s_up α M.length q M.length) = _
    rw [s_up, if_pos rfl]
  cases i
  case new k =>
    obtain ⟨x9, rfl, hk9⟩ := s_res_new hr
    obtain rfl := of_decide_eq_true hn
    obtain ⟨C, T, N, g1, g2⟩ := s_kCat hk9
    obtain ⟨c1, c2, c3, c4, c5, c6, c7⟩ := s_clok g1
    have h12 : k < 12 := (List.getElem?_eq_some_iff.mp g1).1
    unfold s_al at h
    dsimp only at h
    rw [c6] at h
    cases h
    have e5 : (s_newslots M (M ++ [(k, (List.range N).map (fun j => s_dv (s_fty k j)))])) = N := by rw [hnew]; simp
    rw [e5] at hslots kk
    have him : s_im cy tt α (k, (List.range N).map (fun j => s_dv (s_fty k j))) = .inr (k, (List.range N).map (fun j => s_dv (s_fty k j))) := by
      refine (if_pos h12).trans ?_
      refine congrArg (fun z => Sum.inr (k, z)) ?_
      rw [List.map_map]
      exact List.map_congr_left fun j _ => s_dv_tr _
    refine va_new (ci := k) (fs := (List.range N).map (fun j => s_dv (s_fty k j))) hx hb hts c1 (s_fty k) c2 hown (hts _ g2) (hts _ c4) (hts _ c5) hK.1 hP hD hS hA g1 (fun j hj => ?_) hcells hslots hd (fun q H1 hP1 hD1 hS1 => ?_)
    · rw [s_dv_ok k h12 _ c6 j hj]
      simp [vp_V, List.getD, hj]
    · have hlk : s_lok M.length (k, (List.range N).map (fun j => s_dv (s_fty k j))).2 := fun w hw => by
        obtain ⟨j, -, rfl⟩ := List.mem_map.mp hw
        exact s_dv_vok _
      rw [← him, s_img_push hM hlk] at hP1 hD1
      have h9 := kk q H1 hP1 hD1 hS1
      rw [hup q st hst] at h9
      exact h9
  case newarray t =>
    have e := s_res_pl rfl hr
    subst e
    obtain rfl := of_decide_eq_true hn
    unfold s_al at h
    dsimp only at h
    split at h
    · rename_i n r9
      have hr9 : s_lok M.length r9 := (s_lok_c.mp hst).2
      have hw : ∀ {k : Nat} {v : Value} {ty : FieldType} {a0 : vp_A}, s_na k v n r9 M = some (st', M') → newarray.typeOf t = ty → (s_tys cy)[k - 12]? = some (cy k, ty) → Cond.arrayClass ty ∈ s_G → (∀ cA : ClassId, vp_cell cA a0 = arrV cA n.toNatClampNeg (fun _ => defaultValue ty)) → s_im cy tt α (k, List.replicate n.toNatClampNeg v) = .inl (cy k, a0) → (∀ j, s_vok j v) → componentBytes ty ≤ 8 → W p l e R s m args below meth c H locs cells slots Q (F0 m pc lsR ((Value.int n :: r9).map (s_tr tt α))) := by
        intro k v ty a0 hna hty htys hwd ha him hv hcb
        obtain ⟨n1, n2, rfl, rfl⟩ := s_na_sp hna
        have e5 : (s_newslots M (M ++ [(k, List.replicate n.toNatClampNeg v)])) = n.toNatClampNeg := by rw [hnew]; simp
        rw [e5] at hslots kk
        refine s_arrNew hF0 hK hP hD hS hA hM hty htys hwd ha him hv n1 (Nat.le_trans (Nat.mul_le_mul n2 hcb) (by decide)) hcells hslots hd (fun q H1 hP1 hD1 hS1 => ?_)
        have h9 := kk q H1 hP1 hD1 hS1
        rw [hup q r9 hr9] at h9
        exact h9
      cases t
      case byte => exact hw (a0 := (n.toNatClampNeg, .inl (fun _ => 0))) h rfl rfl (s_inG (by decide +kernel) rfl) (fun _ => rfl) (by rw [s_im_b, s_iv_rep, List.length_replicate]) (fun _ => s_vok_i) (by decide)
      case int => exact hw (a0 := (n.toNatClampNeg, .inl (fun _ => 0))) h rfl rfl (s_inG (by decide +kernel) rfl) (fun _ => rfl) (by rw [s_im_i, s_iv_rep, List.length_replicate]) (fun _ => s_vok_i) (by decide)
      case long => exact hw (a0 := (n.toNatClampNeg, .inr (.inl (fun _ => 0)))) h rfl rfl (s_inG (by decide +kernel) rfl) (fun _ => rfl) (by rw [s_im_l, s_lv_rep, List.length_replicate]) (fun _ => s_vok_l) (by decide)
      case short => exact hw (a0 := (n.toNatClampNeg, .inl (fun _ => 0))) h rfl rfl (s_inG (by decide +kernel) rfl) (fun _ => rfl) (by rw [s_im_s, s_iv_rep, List.length_replicate]) (fun _ => s_vok_i) (by decide)
      case boolean => exact hw (a0 := (n.toNatClampNeg, .inl (fun _ => 0))) h rfl rfl (s_inG (by decide +kernel) rfl) (fun _ => rfl) (by rw [s_im_z, s_iv_rep, List.length_replicate]) (fun _ => s_vok_i) (by decide)
      all_goals cases h
    · cases h
  case anewarray k =>
    obtain ⟨x9, rfl, hk9⟩ := s_res_anewarray hr
    obtain rfl := of_decide_eq_true hn
    obtain ⟨k17, k19, g2⟩ := s_kAat hk9
    unfold s_al at h
    dsimp only at h
    split at h
    · rename_i n r9
      have hr9 : s_lok M.length r9 := (s_lok_c.mp hst).2
      rw [show (Nat.ble 17 k && Nat.ble k 19) = true by simp [k17, k19]] at h
      obtain ⟨n1, n2, rfl, rfl⟩ := s_na_sp h
      have e5 : (s_newslots M (M ++ [(k, List.replicate n.toNatClampNeg Value.null)])) = n.toNatClampNeg := by rw [hnew]; simp
      rw [e5] at hslots kk
      have hAO : va_AO (s_ac0 k) s ∧ (s_tys cy)[k - 12]? = some (cy k, .object (s_ac0 k)) := by
        rcases (show k = 17 ∨ k = 18 ∨ k = 19 by omega) with rfl | rfl | rfl
        · exact ⟨hK.2.1, rfl⟩
        · exact ⟨hK.2.2.1, rfl⟩
        · exact ⟨hK.2.2.2.1, rfl⟩
      refine va_newq hx hb hown (hts _ g2) hAO.1 hK.1 hP hD hS hA n1 rfl (Nat.le_trans (Nat.mul_le_mul_right 4 n2) (by decide)) hcells hslots hd (fun q cA H1 hK1 hP1 hD1 hS1 => ?_)
      have e1 := (hK1.2 8 (cA, .object (s_ac0 k)) rfl).2
      have e2 := (hK.1.2 _ _ hAO.2).2
      have e3 : cA = cy k := s_RA_inj e1 e2
      subst e3
      have hlk : s_lok M.length (k, List.replicate n.toNatClampNeg Value.null).2 := fun w hw => by rw [(List.mem_replicate.mp hw).2]; exact s_vok_n
      have him : s_im cy tt α (k, List.replicate n.toNatClampNeg Value.null) = .inl (cy k, n.toNatClampNeg, .inr (.inr (.inr (.inr (fun _ => none))))) := by
        rw [s_im_q k17, s_qv_rep, List.length_replicate]
      rw [← him, s_img_push hM hlk] at hP1 hD1
      have h9 := kk q H1 hP1 hD1 hS1
      rw [hup q r9 hr9] at h9
      exact h9
    · cases h
  all_goals exact nomatch (show none = some _ from h)
end S11
end
section
/-! WHAT A RUN KEEPS: references lie within, cells are never fewer -/
theorem s_get_ok {n k : Nat} {ls : sL} {v : Value} (a : s_sok n ls) (h : s_get ls k = some v) : s_vok n v := a _ (s_get_mem h)
theorem s_set_ok {n k : Nat} {ls : sL} {v : Value} (a : s_sok n ls) (h : s_vok n v) : s_sok n (s_set ls k v) := fun q hq => by
  rcases List.mem_cons.mp hq with rfl | hq
  · exact h
  · exact a q (List.mem_filter.mp hq).1
theorem s_setL_ok {n k : Nat} {ls : sL} {v : Value} (a : s_sok n ls) (h : s_vok n v) : s_sok n (s_setL ls k v) := fun q hq => by
  rcases List.mem_cons.mp hq with rfl | hq
  · exact h
  · exact a q (List.mem_filter.mp hq).1
theorem s_fld_ok {n a k : Nat} {M : sM} {v : Value} (b : s_Mok n M) (h : s_fld M a k = some v) : s_vok n v := by
  obtain ⟨fs, h1, h2⟩ := s_fld_at h
  exact b _ (List.mem_of_getElem? h1) _ (List.mem_of_getElem? h2)
theorem s_at_ok {n a : Nat} {i : Int32} {ok : Nat → Bool} {M : sM} {v : Value} (b : s_Mok n M) (h : s_at M a i ok = some v) : s_vok n v := by
  obtain ⟨k, vs, h1, -, -, h2, -⟩ := s_at_at h
  exact b _ (List.mem_of_getElem? h1) _ (List.mem_of_getElem? h2)
section S12
variable {n : Nat} {k mx p P : Nat} {ls ls' : sL} {st st' : List Value} {M : sM} {E : sE}
theorem s_i1_ok {f : Int32 → Value} (hf : ∀ x, s_vok n (f x)) (h : s_i1 st f p ls = some (P, ls', st')) (a : s_sok n ls) (b : s_lok n st) : s_sok n ls' ∧ s_lok n st' := by
  unfold s_i1 at h
  split at h
  · cases h; exact ⟨a, s_lok_c.mpr ⟨hf _, (s_lok_c.mp b).2⟩⟩
  · cases h
theorem s_i2_ok {f : Int32 → Int32 → Int32} (h : s_i2 st f p ls = some (P, ls', st')) (a : s_sok n ls) (b : s_lok n st) : s_sok n ls' ∧ s_lok n st' := by
  unfold s_i2 at h
  split at h
  · cases h; exact ⟨a, s_lok_c.mpr ⟨s_vok_i, (s_lok_c.mp (s_lok_c.mp b).2).2⟩⟩
  · cases h
theorem s_l2_ok {f : Int64 → Int64 → Int64} (h : s_l2 st f p ls = some (P, ls', st')) (a : s_sok n ls) (b : s_lok n st) : s_sok n ls' ∧ s_lok n st' := by
  unfold s_l2 at h
  split at h
  · cases h; exact ⟨a, s_lok_c.mpr ⟨s_vok_l, (s_lok_c.mp (s_lok_c.mp b).2).2⟩⟩
  · cases h
theorem s_li_ok {f : Int64 → Int32 → Int64} (h : s_li st f p ls = some (P, ls', st')) (a : s_sok n ls) (b : s_lok n st) : s_sok n ls' ∧ s_lok n st' := by
  unfold s_li at h
  split at h
  · cases h; exact ⟨a, s_lok_c.mpr ⟨s_vok_l, (s_lok_c.mp (s_lok_c.mp b).2).2⟩⟩
  · cases h
theorem s_ild_ok (h : s_ild k p ls st = some (P, ls', st')) (a : s_sok n ls) (b : s_lok n st) : s_sok n ls' ∧ s_lok n st' := by
  unfold s_ild at h
  split at h
  · cases h; exact ⟨a, s_lok_c.mpr ⟨s_vok_i, b⟩⟩
  · cases h
theorem s_lld_ok (h : s_lld k p ls st = some (P, ls', st')) (a : s_sok n ls) (b : s_lok n st) : s_sok n ls' ∧ s_lok n st' := by
  unfold s_lld at h
  split at h
  · cases h; exact ⟨a, s_lok_c.mpr ⟨s_vok_l, b⟩⟩
  · cases h
theorem s_ald_ok (h : s_ald k p ls st = some (P, ls', st')) (a : s_sok n ls) (b : s_lok n st) : s_sok n ls' ∧ s_lok n st' := by
  unfold s_ald at h
  split at h
  · rename_i x hx; cases h; exact ⟨a, s_lok_c.mpr ⟨s_get_ok a hx, b⟩⟩
  · cases h; exact ⟨a, s_lok_c.mpr ⟨s_vok_n, b⟩⟩
  · cases h; exact ⟨a, s_lok_c.mpr ⟨s_vok_t, b⟩⟩
  · cases h
theorem s_ist_ok (h : s_ist mx k p ls st = some (P, ls', st')) (a : s_sok n ls) (b : s_lok n st) : s_sok n ls' ∧ s_lok n st' := by
  unfold s_ist at h
  split at h
  · cases hb : Nat.blt k mx with
    | true => rw [hb] at h; cases h; exact ⟨s_set_ok a s_vok_i, (s_lok_c.mp b).2⟩
    | false => rw [hb] at h; cases h
  · cases h
theorem s_lst_ok (h : s_lst mx k p ls st = some (P, ls', st')) (a : s_sok n ls) (b : s_lok n st) : s_sok n ls' ∧ s_lok n st' := by
  unfold s_lst at h
  split at h
  · cases hb : Nat.blt (k + 1) mx with
    | true => rw [hb] at h; cases h; exact ⟨s_setL_ok a s_vok_l, (s_lok_c.mp b).2⟩
    | false => rw [hb] at h; cases h
  · cases h
theorem s_ast_ok (h : s_ast mx k p ls st = some (P, ls', st')) (a : s_sok n ls) (b : s_lok n st) : s_sok n ls' ∧ s_lok n st' := by
  unfold s_ast at h
  split at h
  · cases hb : Nat.blt k mx with
    | true => rw [hb] at h; cases h; exact ⟨s_set_ok a (s_lok_c.mp b).1, (s_lok_c.mp b).2⟩
    | false => rw [hb] at h; cases h
  · cases hb : Nat.blt k mx with
    | true => rw [hb] at h; cases h; exact ⟨s_set_ok a s_vok_n, (s_lok_c.mp b).2⟩
    | false => rw [hb] at h; cases h
  · cases h
theorem s_iinc_ok {z : Int} (h : s_iinc mx k z p ls st = some (P, ls', st')) (a : s_sok n ls) (b : s_lok n st) : s_sok n ls' ∧ s_lok n st' := by
  unfold s_iinc at h
  split at h
  · cases hb : Nat.blt k mx with
    | true => rw [hb] at h; cases h; exact ⟨s_set_ok a s_vok_i, b⟩
    | false => rw [hb] at h; cases h
  · cases h
theorem s_gf_ok (h : s_gf k p ls st M = some (P, ls', st')) (a : s_sok n ls) (b : s_lok n st) (c : s_Mok n M) : s_sok n ls' ∧ s_lok n st' := by
  unfold s_gf at h
  split at h
  · split at h
    · rename_i v hv; cases h; exact ⟨a, s_lok_c.mpr ⟨s_fld_ok c hv, (s_lok_c.mp b).2⟩⟩
    · cases h
  · cases h
theorem s_ia_ok (h : s_ia E p ls st M = some (P, ls', st')) (a : s_sok n ls) (b : s_lok n st) : s_sok n ls' ∧ s_lok n st' := by
  unfold s_ia at h
  split at h
  · split at h
    · cases h; exact ⟨a, s_lok_c.mpr ⟨s_vok_i, (s_lok_c.mp (s_lok_c.mp b).2).2⟩⟩
    · cases h
  · rename_i i j r
    cases hb : (!decide (i < 0) && (Nat.blt i.toNatClampNeg (E j).1 && Nat.blt j (E 3).1)) with
    | true => rw [hb] at h; cases h; exact ⟨a, s_lok_c.mpr ⟨s_vok_i, (s_lok_c.mp (s_lok_c.mp b).2).2⟩⟩
    | false => rw [hb] at h; cases h
  · cases h
theorem s_ba_ok (h : s_ba p ls st M = some (P, ls', st')) (a : s_sok n ls) (b : s_lok n st) : s_sok n ls' ∧ s_lok n st' := by
  unfold s_ba at h
  split at h
  · split at h
    · cases h; exact ⟨a, s_lok_c.mpr ⟨s_vok_i, (s_lok_c.mp (s_lok_c.mp b).2).2⟩⟩
    · cases h
  · cases h
theorem s_sa_ok (h : s_sa p ls st M = some (P, ls', st')) (a : s_sok n ls) (b : s_lok n st) : s_sok n ls' ∧ s_lok n st' := by
  unfold s_sa at h
  split at h
  · split at h
    · cases h; exact ⟨a, s_lok_c.mpr ⟨s_vok_i, (s_lok_c.mp (s_lok_c.mp b).2).2⟩⟩
    · cases h
  · cases h
theorem s_la_ok (h : s_la p ls st M = some (P, ls', st')) (a : s_sok n ls) (b : s_lok n st) : s_sok n ls' ∧ s_lok n st' := by
  unfold s_la at h
  split at h
  · split at h
    · cases h; exact ⟨a, s_lok_c.mpr ⟨s_vok_l, (s_lok_c.mp (s_lok_c.mp b).2).2⟩⟩
    · cases h
  · cases h
theorem s_aa_ok (h : s_aa p ls st M = some (P, ls', st')) (a : s_sok n ls) (b : s_lok n st) (c : s_Mok n M) : s_sok n ls' ∧ s_lok n st' := by
  unfold s_aa at h
  split at h
  · split at h
    · rename_i x hx; cases h; exact ⟨a, s_lok_c.mpr ⟨s_at_ok c hx, (s_lok_c.mp (s_lok_c.mp b).2).2⟩⟩
    · cases h; exact ⟨a, s_lok_c.mpr ⟨s_vok_n, (s_lok_c.mp (s_lok_c.mp b).2).2⟩⟩
    · cases h
  · cases h
theorem s_len_ok (h : s_len E p ls st M = some (P, ls', st')) (a : s_sok n ls) (b : s_lok n st) : s_sok n ls' ∧ s_lok n st' := by
  unfold s_len at h
  split at h
  · split at h
    · rename_i q hq
      cases hb : (Nat.ble 12 q.1 && Nat.ble q.1 19) with
      | true => rw [hb] at h; cases h; exact ⟨a, s_lok_c.mpr ⟨s_vok_i, (s_lok_c.mp b).2⟩⟩
      | false => rw [hb] at h; cases h
    · cases h
  · rename_i j r
    cases hb : Nat.blt j (E 3).1 with
    | true => rw [hb] at h; cases h; exact ⟨a, s_lok_c.mpr ⟨s_vok_i, (s_lok_c.mp b).2⟩⟩
    | false => rw [hb] at h; cases h
  · cases h
theorem s_jump_ok {o : Option Nat} {r : List Value} (h : s_jump o ls r = some (P, ls', st')) (a : s_sok n ls) (b : s_lok n r) : s_sok n ls' ∧ s_lok n st' := by
  obtain ⟨rfl, rfl, -⟩ := s_jp_sp h
  exact ⟨a, b⟩
theorem s_lkup_ok {d : Int} {ps : Array (Int × Int)} {pc : Nat} (h : s_lkup d ps pc ls st = some (P, ls', st')) (a : s_sok n ls) (b : s_lok n st) : s_sok n ls' ∧ s_lok n st' := by
  unfold s_lkup at h
  split at h
  · cases hz : (ps.toList.zip (ps.toList.drop 1)).all (fun q => decide (q.1.1 < q.2.1)) with
    | true => rw [hz] at h; exact s_jump_ok h a (s_lok_c.mp b).2
    | false => rw [hz] at h; cases h
  · cases h
theorem s_tsw_ok {d lo hi : Int} {os : Array Int} {pc : Nat} (h : s_tsw d lo hi os pc ls st = some (P, ls', st')) (a : s_sok n ls) (b : s_lok n st) : s_sok n ls' ∧ s_lok n st' := by
  unfold s_tsw at h
  split at h
  · rename_i x r
    cases hz : (decide (x.toInt < lo) || decide (hi < x.toInt)) with
    | true => rw [hz] at h; exact s_jump_ok h a (s_lok_c.mp b).2
    | false =>
      rw [hz, cond_false] at h
      split at h
      · exact s_jump_ok h a (s_lok_c.mp b).2
      · cases h
  · cases h
set_option maxHeartbeats 4000000 in
theorem s_pure_ok {i : Jvm.ClassFile.Instr} {pc : Nat} (h : s_pure E mx i pc p ls st M = some (P, ls', st')) (a : s_sok n ls) (b : s_lok n st) (c : s_Mok n M) : s_sok n ls' ∧ s_lok n st' := by
  cases i
  case aload k => exact s_ald_ok (show s_ald k p ls st = _ from h) a b
  case aload_n k => exact s_ald_ok (show s_ald k.val p ls st = _ from h) a b
  case iload k => exact s_ild_ok (show s_ild k p ls st = _ from h) a b
  case iload_n k => exact s_ild_ok (show s_ild k.val p ls st = _ from h) a b
  case lload k => exact s_lld_ok (show s_lld k p ls st = _ from h) a b
  case lload_n k => exact s_lld_ok (show s_lld k.val p ls st = _ from h) a b
  case istore k => exact s_ist_ok (show s_ist mx k p ls st = _ from h) a b
  case istore_n k => exact s_ist_ok (show s_ist mx k.val p ls st = _ from h) a b
  case lstore k => exact s_lst_ok (show s_lst mx k p ls st = _ from h) a b
  case lstore_n k => exact s_lst_ok (show s_lst mx k.val p ls st = _ from h) a b
  case astore k => exact s_ast_ok (show s_ast mx k p ls st = _ from h) a b
  case astore_n k => exact s_ast_ok (show s_ast mx k.val p ls st = _ from h) a b
  case iinc k z => exact s_iinc_ok (show s_iinc mx k z p ls st = _ from h) a b
  case iconst z => cases h; exact ⟨a, s_lok_c.mpr ⟨s_vok_i, b⟩⟩
  case bipush z => cases h; exact ⟨a, s_lok_c.mpr ⟨s_vok_i, b⟩⟩
  case sipush z => cases h; exact ⟨a, s_lok_c.mpr ⟨s_vok_i, b⟩⟩
  case lconst z => cases h; exact ⟨a, s_lok_c.mpr ⟨s_vok_l, b⟩⟩
  case ldc z => cases h; exact ⟨a, s_lok_c.mpr ⟨s_vok_i, b⟩⟩
  case ldc_w z => cases h; exact ⟨a, s_lok_c.mpr ⟨s_vok_i, b⟩⟩
  case ldc2_w z => cases h; exact ⟨a, s_lok_c.mpr ⟨s_vok_l, b⟩⟩
  case aconst_null => cases h; exact ⟨a, s_lok_c.mpr ⟨s_vok_n, b⟩⟩
  case iadd => exact s_i2_ok (show s_i2 st _ p ls = _ from h) a b
  case isub => exact s_i2_ok (show s_i2 st _ p ls = _ from h) a b
  case imul => exact s_i2_ok (show s_i2 st _ p ls = _ from h) a b
  case iand => exact s_i2_ok (show s_i2 st _ p ls = _ from h) a b
  case ior => exact s_i2_ok (show s_i2 st _ p ls = _ from h) a b
  case ixor => exact s_i2_ok (show s_i2 st _ p ls = _ from h) a b
  case ishl => exact s_i2_ok (show s_i2 st _ p ls = _ from h) a b
  case ishr => exact s_i2_ok (show s_i2 st _ p ls = _ from h) a b
  case iushr => exact s_i2_ok (show s_i2 st _ p ls = _ from h) a b
  case idiv =>
    unfold s_pure at h
    dsimp only at h
    split at h
    · rename_i y r
      cases hy : decide (y = 0) with
      | true => rw [hy] at h; cases h
      | false => rw [hy] at h; exact s_i2_ok (show s_i2 _ _ p ls = _ from h) a b
    · cases h
  case irem =>
    unfold s_pure at h
    dsimp only at h
    split at h
    · rename_i y r
      cases hy : decide (y = 0) with
      | true => rw [hy] at h; cases h
      | false => rw [hy] at h; exact s_i2_ok (show s_i2 _ _ p ls = _ from h) a b
    · cases h
  case ineg => exact s_i1_ok (fun _ => s_vok_i) (show s_i1 st _ p ls = _ from h) a b
  case i2l => exact s_i1_ok (fun _ => s_vok_l) (show s_i1 st _ p ls = _ from h) a b
  case i2b => exact s_i1_ok (fun _ => s_vok_i) (show s_i1 st _ p ls = _ from h) a b
  case i2s => exact s_i1_ok (fun _ => s_vok_i) (show s_i1 st _ p ls = _ from h) a b
  case l2i =>
    unfold s_pure at h
    dsimp only at h
    split at h
    · cases h; exact ⟨a, s_lok_c.mpr ⟨s_vok_i, (s_lok_c.mp b).2⟩⟩
    · cases h
  case lcmp =>
    unfold s_pure at h
    dsimp only at h
    split at h
    · cases h; exact ⟨a, s_lok_c.mpr ⟨s_vok_i, (s_lok_c.mp (s_lok_c.mp b).2).2⟩⟩
    · cases h
  case ladd => exact s_l2_ok (show s_l2 st _ p ls = _ from h) a b
  case lsub => exact s_l2_ok (show s_l2 st _ p ls = _ from h) a b
  case land => exact s_l2_ok (show s_l2 st _ p ls = _ from h) a b
  case lor => exact s_l2_ok (show s_l2 st _ p ls = _ from h) a b
  case lshl => exact s_li_ok (show s_li st _ p ls = _ from h) a b
  case lushr => exact s_li_ok (show s_li st _ p ls = _ from h) a b
  case dup =>
    unfold s_pure at h
    dsimp only at h
    split at h
    · rename_i v r
      cases hv : Nat.beq v.category 1 with
      | true => rw [hv] at h; cases h; exact ⟨a, s_lok_c.mpr ⟨(s_lok_c.mp b).1, b⟩⟩
      | false => rw [hv] at h; cases h
    · cases h
  case pop =>
    unfold s_pure at h
    dsimp only at h
    split at h
    · rename_i v r
      cases hv : Nat.beq v.category 1 with
      | true => rw [hv] at h; cases h; exact ⟨a, (s_lok_c.mp b).2⟩
      | false => rw [hv] at h; cases h
    · cases h
  case dup2 =>
    unfold s_pure at h
    dsimp only at h
    split at h
    · rename_i v w r
      cases hv : (Nat.beq v.category 1 && Nat.beq w.category 1) with
      | true => rw [hv] at h; cases h; exact ⟨a, s_lok_c.mpr ⟨(s_lok_c.mp b).1, s_lok_c.mpr ⟨(s_lok_c.mp (s_lok_c.mp b).2).1, b⟩⟩⟩
      | false => rw [hv] at h; cases h
    · cases h
  case goto off => exact s_jump_ok (show s_jump _ ls st = _ from h) a b
  case ifCond cnd off =>
    unfold s_pure at h
    dsimp only at h
    split at h
    · exact s_jump_ok h a (s_lok_c.mp b).2
    · cases h
  case if_icmp cnd off =>
    unfold s_pure at h
    dsimp only at h
    split at h
    · exact s_jump_ok h a (s_lok_c.mp (s_lok_c.mp b).2).2
    · cases h
  case ifnull off =>
    unfold s_pure at h
    dsimp only at h
    split at h
    · exact s_jump_ok h a (s_lok_c.mp b).2
    · cases h; exact ⟨a, (s_lok_c.mp b).2⟩
    · cases h
  case ifnonnull off =>
    unfold s_pure at h
    dsimp only at h
    split at h
    · cases h; exact ⟨a, (s_lok_c.mp b).2⟩
    · exact s_jump_ok h a (s_lok_c.mp b).2
    · cases h
  case lookupswitch d ps => exact s_lkup_ok (show s_lkup d ps pc ls st = _ from h) a b
  case tableswitch d lo hi os => exact s_tsw_ok (show s_tsw d lo hi os pc ls st = _ from h) a b
  case getfield k => exact s_gf_ok (show s_gf k p ls st M = _ from h) a b c
  case getstatic j =>
    unfold s_pure at h
    dsimp only at h
    cases hb : Nat.blt j 2 with
    | true => rw [hb] at h; cases h; exact ⟨a, s_lok_c.mpr ⟨s_vok_t, b⟩⟩
    | false => rw [hb] at h; cases h
  case iaload => exact s_ia_ok (show s_ia E p ls st M = _ from h) a b
  case baload => exact s_ba_ok (show s_ba p ls st M = _ from h) a b
  case saload => exact s_sa_ok (show s_sa p ls st M = _ from h) a b
  case laload => exact s_la_ok (show s_la p ls st M = _ from h) a b
  case aaload => exact s_aa_ok (show s_aa p ls st M = _ from h) a b c
  case arraylength => exact s_len_ok (show s_len E p ls st M = _ from h) a b
  all_goals exact nomatch (show none = some _ from h)
end S12
def s_slots (M : sM) : Nat := (M.map (fun c => c.2.length)).sum
theorem s_slots_set {M : sM} {a k : Nat} {vs ws : List Value} (h : M[a]? = some (k, vs)) (hl : ws.length = vs.length) : s_slots (M.set a (k, ws)) = s_slots M := by
  unfold s_slots
  refine congrArg List.sum ?_
  apply List.ext_getElem?
  intro i
  rw [List.getElem?_map, List.getElem?_map, List.getElem?_set]
  by_cases hi : a = i
  · subst hi
    rw [if_pos rfl, if_pos (List.getElem?_eq_some_iff.mp h).1, h]
    simp [hl]
  · rw [if_neg hi]
theorem s_slots_app {M : sM} {c : sC} : s_slots (M ++ [c]) = s_slots M + c.2.length := by
  unfold s_slots
  simp
theorem s_Mok_set {n a k : Nat} {M : sM} {ws : List Value} (h : s_Mok n M) (hw : s_lok n ws) : s_Mok n (M.set a (k, ws)) := fun c hc => by
  rcases List.mem_or_eq_of_mem_set hc with h1 | rfl
  · exact h c h1
  · exact hw
theorem s_lok_set {n j : Nat} {vs : List Value} {v : Value} (h : s_lok n vs) (hv : s_vok n v) : s_lok n (vs.set j v) := fun w hw => by
  rcases List.mem_or_eq_of_mem_set hw with h1 | rfl
  · exact h w h1
  · exact hv
/-- the same cells, of the same sizes -/
def s_same (n : Nat) (M M' : sM) : Prop := M'.length = M.length ∧ s_slots M' = s_slots M ∧ s_Mok n M'
theorem s_ps_ok {n : Nat} {M M' : sM} {a : Nat} {i : Int32} {v : Value} {ok : Nat → Bool} {r r' : List Value} (h : s_ps M a i v ok r = some (r', M')) (c : s_Mok n M) (hv : s_vok n v) (hr : s_lok n r) : s_lok n r' ∧ s_same n M M' := by
  obtain ⟨k, vs, h1, -, -, -, -, rfl, rfl⟩ := s_ps_sp h
  exact ⟨hr, List.length_set, s_slots_set h1 List.length_set, s_Mok_set c (s_lok_set (c _ (List.mem_of_getElem? h1)) hv)⟩
theorem s_pf_ok {n k : Nat} {f : Nat → Nat → FieldType} {M M' : sM} {st r' : List Value} (h : s_pf f k st M = some (r', M')) (b : s_lok n st) (c : s_Mok n M) : s_lok n r' ∧ s_same n M M' := by
  unfold s_pf at h
  split at h
  · rename_i v a r
    split at h
    · rename_i q hq
      cases hz : (Nat.beq q.1 (k / 64) && (s_fit (f (k / 64) (k % 64)) v && Nat.blt (k % 64) q.2.length)) with
      | true =>
        rw [hz] at h
        cases h
        exact ⟨(s_lok_c.mp (s_lok_c.mp b).2).2, List.length_set, s_slots_set hq List.length_set, s_Mok_set c (s_lok_set (c _ (List.mem_of_getElem? hq)) (s_lok_c.mp b).1)⟩
      | false => rw [hz] at h; cases h
    · cases h
  · cases h
theorem s_wr_ok {n : Nat} {f : Nat → Nat → FieldType} {i : Jvm.ClassFile.Instr} {M M' : sM} {st r' : List Value} (h : s_wr f i st M = some (r', M')) (b : s_lok n st) (c : s_Mok n M) : s_lok n r' ∧ s_same n M M' := by
  cases i
  case putfield k => exact s_pf_ok (show s_pf f k st M = _ from h) b c
  case putstatic k => exact s_pf_ok (show s_pf f k st M = _ from h) b c
  case iastore =>
    unfold s_wr at h
    dsimp only at h
    split at h
    · exact s_ps_ok h c s_vok_i (s_lok_c.mp (s_lok_c.mp (s_lok_c.mp b).2).2).2
    · cases h
  case sastore =>
    unfold s_wr at h
    dsimp only at h
    split at h
    · exact s_ps_ok h c s_vok_i (s_lok_c.mp (s_lok_c.mp (s_lok_c.mp b).2).2).2
    · cases h
  case lastore =>
    unfold s_wr at h
    dsimp only at h
    split at h
    · exact s_ps_ok h c s_vok_l (s_lok_c.mp (s_lok_c.mp (s_lok_c.mp b).2).2).2
    · cases h
  case bastore =>
    unfold s_wr at h
    dsimp only at h
    split at h
    · rename_i x j a r
      cases hz : Nat.beq (s_kd M a) 12 with
      | true => rw [hz, cond_true] at h; exact s_ps_ok h c s_vok_i (s_lok_c.mp (s_lok_c.mp (s_lok_c.mp b).2).2).2
      | false => rw [hz, cond_false] at h; exact s_ps_ok h c s_vok_i (s_lok_c.mp (s_lok_c.mp (s_lok_c.mp b).2).2).2
    · cases h
  case aastore =>
    unfold s_wr at h
    dsimp only at h
    split at h
    · exact s_ps_ok h c (s_lok_c.mp b).1 (s_lok_c.mp (s_lok_c.mp (s_lok_c.mp b).2).2).2
    · cases h
  all_goals exact nomatch (show none = some _ from h)
theorem s_ac_ok {n : Nat} {M M' : sM} {st r' : List Value} (h : s_ac st M = some (r', M')) (b : s_lok n st) (c : s_Mok n M) : s_lok n r' ∧ s_same n M M' := by
  obtain ⟨n1, dp, b1, sp, a, k, va, vb, rfl, h1, h2, -, -, -, -, h3, h4, -, rfl⟩ := s_ac_sp h
  have b5 := (s_lok_c.mp (s_lok_c.mp (s_lok_c.mp (s_lok_c.mp (s_lok_c.mp b).2).2).2).2).2
  have wa := c _ (List.mem_of_getElem? h1)
  have wb := c _ (List.mem_of_getElem? h2)
  refine ⟨b5, List.length_set, s_slots_set h2 (s_cpy_len h3 h4), s_Mok_set c (fun w hw => ?_)⟩
  unfold s_cpy at hw
  rcases List.mem_append.mp hw with hw | hw
  · exact wb _ (List.mem_of_mem_take hw)
  · rcases List.mem_append.mp hw with hw | hw
    · exact wa _ (List.mem_of_mem_drop (List.mem_of_mem_take hw))
    · exact wb _ (List.mem_of_mem_drop hw)
theorem s_al_sp {i : Jvm.ClassFile.Instr} {M M' : sM} {st r' : List Value} (h : s_al s_ft i st M = some (r', M')) : ∃ (c : sC) (r : List Value), M' = M ++ [c] ∧ r' = .ref M.length :: r ∧ (∀ n, s_lok n st → s_lok n r) ∧ ∀ n, s_lok n c.2 := by
  cases i
  case new k =>
    unfold s_al at h
    dsimp only at h
    split at h
    · rename_i q hq
      cases h
      exact ⟨_, _, rfl, rfl, fun _ h => h, fun n w hw => by
        obtain ⟨j, -, rfl⟩ := List.mem_map.mp hw
        exact s_dv_vok _⟩
    · cases h
  case newarray t =>
    unfold s_al at h
    dsimp only at h
    split at h
    · rename_i n r9
      split at h
      · rename_i q hq
        obtain ⟨-, -, rfl, rfl⟩ := s_na_sp h
        refine ⟨_, r9, rfl, rfl, fun _ h => (s_lok_c.mp h).2, fun n w hw => ?_⟩
        rw [(List.mem_replicate.mp hw).2]
        cases t <;> first | (cases hq; done) | (cases hq; exact s_vok_i) | (cases hq; exact s_vok_l)
      · cases h
    · cases h
  case anewarray k =>
    unfold s_al at h
    dsimp only at h
    split at h
    · rename_i n r9
      cases hz : (Nat.ble 17 k && Nat.ble k 19) with
      | true =>
        rw [hz] at h
        obtain ⟨-, -, rfl, rfl⟩ := s_na_sp h
        exact ⟨_, r9, rfl, rfl, fun _ h => (s_lok_c.mp h).2, fun n w hw => by rw [(List.mem_replicate.mp hw).2]; exact s_vok_n⟩
      | false => rw [hz] at h; cases h
    · cases h
  all_goals exact nomatch (show none = some _ from h)
theorem s_al_ok {i : Jvm.ClassFile.Instr} {M M' : sM} {st r' : List Value} (h : s_al s_ft i st M = some (r', M')) (b : s_lok M.length st) (c : s_Mok M.length M) : s_lok M'.length r' ∧ M'.length = M.length + 1 ∧ s_slots M' = s_slots M + s_newslots M M' ∧ s_Mok M'.length M' := by
  obtain ⟨q, r, rfl, rfl, h1, h2⟩ := s_al_sp h
  have hl : (M ++ [q]).length = M.length + 1 := by simp
  refine ⟨s_lok_c.mpr ⟨s_vok_r (by omega), s_lok_le (by omega) (h1 _ b)⟩, hl, ?_, ?_⟩
  · rw [s_slots_app]
    simp [s_newslots]
  · intro x hx
    rcases List.mem_append.mp hx with hx | hx
    · exact s_lok_le (by omega) (c x hx)
    · rw [List.mem_singleton.mp hx]; exact h2 _
theorem s_args_ok {n : Nat} {as : List Value} (h : s_lok n as) : ∀ k, s_sok n (lv_args k as) := by
  induction as with
  | nil => intro k q hq; cases hq
  | cons v vs ih =>
    intro k q hq
    rcases List.mem_cons.mp hq with rfl | hq
    · exact (s_lok_c.mp h).1
    · exact ih (s_lok_c.mp h).2 _ q hq
theorem s_split_sp : ∀ (n : Nat) (acc st as r : List Value), s_split n acc st = some (as, r) → as.reverse ++ r = acc.reverse ++ st ∧ as.length = acc.length + n := by
  intro n
  induction n with
  | zero => intro acc st as r h; cases h; exact ⟨rfl, rfl⟩
  | succ n ih =>
    intro acc st as r h
    cases st with
    | nil => cases h
    | cons v st =>
      obtain ⟨h1, h2⟩ := ih (v :: acc) st as r h
      refine ⟨by rw [h1]; simp, by rw [h2]; simp; omega⟩
theorem s_split_ok {n k : Nat} {st as r : List Value} (h : s_split k [] st = some (as, r)) (b : s_lok n st) : s_lok n as ∧ s_lok n r := by
  obtain ⟨h1, -⟩ := s_split_sp k [] st as r h
  have h2 : as.reverse ++ r = st := h1
  rw [← h2] at b
  exact ⟨fun v hv => b v (List.mem_append_left _ (List.mem_reverse.mpr hv)), fun v hv => b v (List.mem_append_right _ hv)⟩
theorem s_call_sp {rec : Nat → sMeth → Nat → sL → List Value → sM → sR} {d : Nat} {μ ν : sMeth} {p : Nat} {ls : sL} {as r : List Value} {M M' : sM} {o : Option Value} (h : s_call rec d μ ν p ls as r M = some (o, M')) : ∃ d' v M2, d = d' + 1 ∧ s_room ν.1 as r = true ∧ rec d' ν 0 (lv_args 0 as) [] M = some (v, M2) ∧ rec (d' + 1) μ p ls (v.toList ++ r) M2 = some (o, M') := by
  unfold s_call at h
  split at h
  · cases h
  · rename_i d'
    cases hz : s_room ν.1 as r with
    | true =>
      rw [hz, cond_true] at h
      split at h
      · rename_i v M2 h1
        exact ⟨d', some v, M2, rfl, rfl, h1, h⟩
      · rename_i M2 h1
        exact ⟨d', none, M2, rfl, rfl, h1, h⟩
      · cases h
    | false => rw [hz] at h; cases h
end
section
/-! ONE STEP of the small machine, taken apart; what a whole run keeps -/
def s_sp8 (r : List Value) : Prop := (r.map fun v => v.category).sum ≤ 8
set_option maxHeartbeats 4000000 in
theorem s_step_sp {prog : Nat → Option sMeth} {fty : Nat → Nat → FieldType} {ft : List (Nat × (Nat → FieldType))} {E : sE} {rec : Nat → sMeth → Nat → sL → List Value → sM → sR} {d : Nat} {μ : sMeth} {pc : Nat} {ls : sL} {st : List Value} {M M' : sM} {o : Option Value} (h : s_step prog fty ft E rec d μ pc ls st M = some (o, M')) :
    ∃ i len, s_fetch μ.2.2.2 pc = some (i, len) ∧
      ((∃ w as a r ν, i = .invokevirtual w ∧ s_split (w % 8) [] st = some (as, .ref a :: r) ∧ prog (w / 8) = some ν ∧ s_kd M a = ν.2.2.1 ∧ s_call rec d μ ν (pc + 3) ls (.ref a :: as) r M = some (o, M')) ∨
       (∃ a r d', i = .invokespecial 0 ∧ d = d' + 1 ∧ st = .ref a :: r ∧ s_sp8 r ∧ rec d μ (pc + 3) ls r M = some (o, M')) ∨
       (∃ w as a r ν, i = .invokespecial w ∧ w ≠ 0 ∧ s_split (w % 8) [] st = some (as, .ref a :: r) ∧ prog (w / 8) = some ν ∧ s_call rec d μ ν (pc + 3) ls (.ref a :: as) r M = some (o, M')) ∨
       (∃ w as r ν, i = .invokestatic w ∧ s_split (w % 8) [] st = some (as, r) ∧ prog (w / 8) = some ν ∧ s_call rec d μ ν (pc + 3) ls as r M = some (o, M')) ∨
       (∃ w k as r ν, i = .invokeinterface w k ∧ s_split (w % 8) [] st = some (as, r) ∧ prog (w / 8) = some ν ∧ s_call rec d μ ν (pc + 3) ls as r M = some (o, M')) ∨
       (∃ r d' M2, i = .invokedynamic 0 ∧ d = d' + 1 ∧ s_ac st M = some (r, M2) ∧ rec d μ (pc + 3) ls r M2 = some (o, M')) ∨
       (∃ w x y r d', i = .invokedynamic w ∧ w ≠ 0 ∧ d = d' + 1 ∧ st = .int y :: .int x :: r ∧ s_sp8 r ∧ rec d μ (pc + 3) ls (.int (bif Nat.beq w 1 then (if y < x then y else x) else (if x < y then y else x)) :: r) M = some (o, M')) ∨
       (∃ x, i = .ireturn ∧ st = [.int x] ∧ s_rv μ.2.1 (.int x) = true ∧ o = some (.int x) ∧ M' = M) ∨
       (∃ x, i = .lreturn ∧ st = [.long x] ∧ s_rv μ.2.1 (.long x) = true ∧ o = some (.long x) ∧ M' = M) ∨
       (∃ x, i = .areturn ∧ st = [.ref x] ∧ s_rv μ.2.1 (.ref x) = true ∧ o = some (.ref x) ∧ M' = M) ∨
       (i = .areturn ∧ st = [.null] ∧ s_rv μ.2.1 .null = true ∧ o = some .null ∧ M' = M) ∨
       (i = .return_ ∧ st = [] ∧ μ.2.1 = none ∧ o = none ∧ M' = M) ∨
       (∃ r M2, s_wr fty i st M = some (r, M2) ∧ rec d μ (pc + len) ls r M2 = some (o, M')) ∨
       (∃ r M2, s_al ft i st M = some (r, M2) ∧ rec d μ (pc + len) ls r M2 = some (o, M')) ∨
       (∃ P ls' st', s_pure E μ.1 i pc (pc + len) ls st M = some (P, ls', st') ∧ rec d μ P ls' st' M = some (o, M'))) := by
  unfold s_step at h
  split at h
  · cases h
  · rename_i q hq
    obtain ⟨i, len⟩ := q
    refine ⟨i, len, hq, ?_⟩
    dsimp only at h
    split at h
    · rename_i w
      split at h
      · rename_i as a r hs
        split at h
        · rename_i ν hν
          cases hz : Nat.beq (s_kd M a) ν.2.2.1 with
          | true => rw [hz, cond_true] at h; exact Or.inl ⟨w, as, a, r, ν, rfl, hs, hν, Nat.eq_of_beq_eq_true hz, h⟩
          | false => rw [hz] at h; cases h
        · cases h
      · cases h
    · rename_i w
      cases hw : Nat.beq w 0 with
      | true =>
        rw [hw, cond_true] at h
        have e := Nat.eq_of_beq_eq_true hw
        subst e
        split at h
        · rename_i d' a r
          cases hz : Nat.ble (r.map fun v => v.category).sum 8 with
          | true => rw [hz, cond_true] at h; exact Or.inr (Or.inl ⟨a, r, d', rfl, rfl, rfl, Nat.le_of_ble_eq_true hz, h⟩)
          | false => rw [hz] at h; cases h
        · cases h
      | false =>
        rw [hw, cond_false] at h
        have hw0 : w ≠ 0 := fun e => by rw [e] at hw; cases hw
        split at h
        · rename_i as a r hs
          split at h
          · rename_i ν hν
            exact Or.inr (Or.inr (Or.inl ⟨w, as, a, r, ν, rfl, hw0, hs, hν, h⟩))
          · cases h
        · cases h
    · rename_i w
      split at h
      · rename_i as r hs
        split at h
        · rename_i ν hν
          exact Or.inr (Or.inr (Or.inr (Or.inl ⟨w, as, r, ν, rfl, hs, hν, h⟩)))
        · cases h
      · cases h
    · rename_i w k
      split at h
      · rename_i as r hs
        split at h
        · rename_i ν hν
          exact Or.inr (Or.inr (Or.inr (Or.inr (Or.inl ⟨w, k, as, r, ν, rfl, hs, hν, h⟩))))
        · cases h
      · cases h
    · rename_i w
      split at h
      · cases h
      · rename_i d'
        cases hw : Nat.beq w 0 with
        | true =>
          rw [hw, cond_true] at h
          have e := Nat.eq_of_beq_eq_true hw
          subst e
          split at h
          · rename_i r M2 hs
            exact Or.inr (Or.inr (Or.inr (Or.inr (Or.inr (Or.inl ⟨r, d', M2, rfl, rfl, hs, h⟩)))))
          · cases h
        | false =>
          rw [hw, cond_false] at h
          have hw0 : w ≠ 0 := fun e => by rw [e] at hw; cases hw
          split at h
          · rename_i y x r
            cases hz : Nat.ble (r.map fun v => v.category).sum 8 with
            | true => rw [hz, cond_true] at h; exact Or.inr (Or.inr (Or.inr (Or.inr (Or.inr (Or.inr (Or.inl ⟨w, x, y, r, d', rfl, hw0, rfl, rfl, Nat.le_of_ble_eq_true hz, h⟩))))))
            | false => rw [hz] at h; cases h
          · cases h
    · split at h
      · rename_i x
        cases hz : s_rv μ.2.1 (.int x) with
        | true => rw [hz, cond_true] at h; cases h; exact Or.inr (Or.inr (Or.inr (Or.inr (Or.inr (Or.inr (Or.inr (Or.inl ⟨x, rfl, rfl, hz, rfl, rfl⟩)))))))
        | false => rw [hz] at h; cases h
      · cases h
    · split at h
      · rename_i x
        cases hz : s_rv μ.2.1 (.long x) with
        | true => rw [hz, cond_true] at h; cases h; exact Or.inr (Or.inr (Or.inr (Or.inr (Or.inr (Or.inr (Or.inr (Or.inr (Or.inl ⟨x, rfl, rfl, hz, rfl, rfl⟩))))))))
        | false => rw [hz] at h; cases h
      · cases h
    · split at h
      · rename_i v
        cases hz : (s_rv μ.2.1 v && !Nat.beq v.category 2) with
        | true =>
          rw [hz, cond_true] at h
          rw [Bool.and_eq_true] at hz
          split at h
          · rename_i x
            cases h
            exact Or.inr (Or.inr (Or.inr (Or.inr (Or.inr (Or.inr (Or.inr (Or.inr (Or.inr (Or.inl ⟨x, rfl, rfl, hz.1, rfl, rfl⟩)))))))))
          · cases h
            exact Or.inr (Or.inr (Or.inr (Or.inr (Or.inr (Or.inr (Or.inr (Or.inr (Or.inr (Or.inr (Or.inl ⟨rfl, rfl, hz.1, rfl, rfl⟩))))))))))
          · cases h
        | false => rw [hz] at h; cases h
      · cases h
    · split at h
      · rename_i hrt
        cases h
        exact Or.inr (Or.inr (Or.inr (Or.inr (Or.inr (Or.inr (Or.inr (Or.inr (Or.inr (Or.inr (Or.inr (Or.inl ⟨rfl, rfl, hrt, rfl, rfl⟩)))))))))))
      · cases h
    iterate 7
      · split at h
        · rename_i r M2 hs
          exact Or.inr (Or.inr (Or.inr (Or.inr (Or.inr (Or.inr (Or.inr (Or.inr (Or.inr (Or.inr (Or.inr (Or.inr (Or.inl ⟨r, M2, hs, h⟩))))))))))))
        · cases h
    iterate 3
      · split at h
        · rename_i r M2 hs
          exact Or.inr (Or.inr (Or.inr (Or.inr (Or.inr (Or.inr (Or.inr (Or.inr (Or.inr (Or.inr (Or.inr (Or.inr (Or.inr (Or.inl ⟨r, M2, hs, h⟩)))))))))))))
        · cases h
    · split at h
      · rename_i P ls' st' hs
        exact Or.inr (Or.inr (Or.inr (Or.inr (Or.inr (Or.inr (Or.inr (Or.inr (Or.inr (Or.inr (Or.inr (Or.inr (Or.inr (Or.inr ⟨P, ls', st', hs, h⟩)))))))))))))
      · cases h
/-- a run keeps the cells, and every reference within them -/
def s_In (M M' : sM) (o : Option Value) : Prop := M.length ≤ M'.length ∧ s_slots M ≤ s_slots M' ∧ s_Mok M'.length M' ∧ ∀ v, o = some v → s_vok M'.length v
theorem s_In.of {M M2 M' : sM} {o : Option Value} (h : s_In M2 M' o) (h1 : M.length ≤ M2.length) (h2 : s_slots M ≤ s_slots M2) : s_In M M' o := ⟨Nat.le_trans h1 h.1, Nat.le_trans h2 h.2.1, h.2.2⟩
theorem s_tol_ok {n : Nat} {o : Option Value} {r : List Value} (h : ∀ v, o = some v → s_vok n v) (hr : s_lok n r) : s_lok n (o.toList ++ r) := by
  cases o with
  | none => exact hr
  | some v => exact s_lok_c.mpr ⟨h v rfl, hr⟩
set_option maxHeartbeats 4000000 in
theorem s_inv {prog : Nat → Option sMeth} {fty : Nat → Nat → FieldType} {E : sE} : ∀ (n d : Nat) (μ : sMeth) (pc : Nat) (ls : sL) (st : List Value) (M M' : sM) (o : Option Value), s_x prog fty s_ft E n d μ pc ls st M = some (o, M') → s_sok M.length ls → s_lok M.length st → s_Mok M.length M → s_In M M' o := by
  intro n
  induction n with
  | zero => intro d μ pc ls st M M' o h; cases h
  | succ n ih =>
    intro d μ pc ls st M M' o h a b c
    have call : ∀ {ν : sMeth} {p : Nat} {as r : List Value}, s_call (s_x prog fty s_ft E n) d μ ν p ls as r M = some (o, M') → s_lok M.length as → s_lok M.length r → s_In M M' o := by
      intro ν p as r hc ha hr
      obtain ⟨d', v, M2, -, -, h1, h2⟩ := s_call_sp hc
      obtain ⟨g1, g2, g3, g4⟩ := ih _ _ _ _ _ _ _ _ h1 (s_args_ok ha 0) s_lok_nil c
      exact (ih _ _ _ _ _ _ _ _ h2 (s_sok_le g1 a) (s_tol_ok g4 (s_lok_le g1 hr)) g3).of g1 g2
    rw [s_xs] at h
    obtain ⟨i, len, -, h⟩ := s_step_sp h
    rcases h with ⟨w, as, x, r, ν, -, h1, -, -, h2⟩ | ⟨x, r, d', -, -, rfl, -, h2⟩ | ⟨w, as, x, r, ν, -, -, h1, -, h2⟩ | ⟨w, as, r, ν, -, h1, -, h2⟩ | ⟨w, k, as, r, ν, -, h1, -, h2⟩ | ⟨r, d', M2, -, -, h1, h2⟩ | ⟨w, x, y, r, d', -, -, -, rfl, -, h2⟩ | ⟨x, -, rfl, -, rfl, rfl⟩ | ⟨x, -, rfl, -, rfl, rfl⟩ | ⟨x, -, rfl, -, rfl, rfl⟩ | ⟨-, rfl, -, rfl, rfl⟩ | ⟨-, rfl, -, rfl, rfl⟩ | ⟨r, M2, h1, h2⟩ | ⟨r, M2, h1, h2⟩ | ⟨P, ls', st', h1, h2⟩
    · obtain ⟨k1, k2⟩ := s_split_ok h1 b
      exact call h2 (s_lok_c.mpr ⟨(s_lok_c.mp k2).1, k1⟩) (s_lok_c.mp k2).2
    · exact ih _ _ _ _ _ _ _ _ h2 a (s_lok_c.mp b).2 c
    · obtain ⟨k1, k2⟩ := s_split_ok h1 b
      exact call h2 (s_lok_c.mpr ⟨(s_lok_c.mp k2).1, k1⟩) (s_lok_c.mp k2).2
    · obtain ⟨k1, k2⟩ := s_split_ok h1 b
      exact call h2 k1 k2
    · obtain ⟨k1, k2⟩ := s_split_ok h1 b
      exact call h2 k1 k2
    · obtain ⟨k1, k2, k3, k4⟩ := s_ac_ok h1 b c
      exact (ih _ _ _ _ _ _ _ _ h2 (by rw [k2]; exact a) (by rw [k2]; exact k1) (by rw [k2]; exact k4)).of (by rw [k2]; exact Nat.le_refl _) (by rw [k3]; exact Nat.le_refl _)
    · exact ih _ _ _ _ _ _ _ _ h2 a (s_lok_c.mpr ⟨s_vok_i, (s_lok_c.mp (s_lok_c.mp b).2).2⟩) c
    · exact ⟨Nat.le_refl _, Nat.le_refl _, c, fun v hv => by cases hv; exact s_vok_i⟩
    · exact ⟨Nat.le_refl _, Nat.le_refl _, c, fun v hv => by cases hv; exact s_vok_l⟩
    · exact ⟨Nat.le_refl _, Nat.le_refl _, c, fun v hv => by cases hv; exact (s_lok_c.mp b).1⟩
    · exact ⟨Nat.le_refl _, Nat.le_refl _, c, fun v hv => by cases hv; exact s_vok_n⟩
    · exact ⟨Nat.le_refl _, Nat.le_refl _, c, fun v hv => by cases hv⟩
    · obtain ⟨k1, k2, k3, k4⟩ := s_wr_ok h1 b c
      exact (ih _ _ _ _ _ _ _ _ h2 (by rw [k2]; exact a) (by rw [k2]; exact k1) (by rw [k2]; exact k4)).of (by rw [k2]; exact Nat.le_refl _) (by rw [k3]; exact Nat.le_refl _)
    · obtain ⟨k1, k2, k3, k4⟩ := s_al_ok h1 b c
      exact (ih _ _ _ _ _ _ _ _ h2 (s_sok_le (by omega) a) k1 k4).of (by omega) (by omega)
    · obtain ⟨k1, k2⟩ := s_pure_ok h1 a b c
      exact ih _ _ _ _ _ _ _ _ h2 k1 k2 c
end
section
/-! THE SMALL MACHINE IS SOUND: what it answers, the machine answers -/
def s_lnC (cd : sCode) : Bool := cd.all (fun l => l.all (fun o => match o with
  | some i => s_ln2 i.1 i.2
  | none => true))
def s_Ld (cd : sCode) : Prop := ∀ (pc : Nat) (i : sI), s_fetch cd pc = some i → s_ln2 i.1 i.2 = true
theorem s_Ld_of {cd : sCode} (h : s_lnC cd = true) : s_Ld cd := by
  intro pc i hi
  unfold s_fetch at hi
  split at hi
  · rename_i l hl
    split at hi
    · rename_i o ho
      have h1 := List.all_eq_true.mp h l (List.mem_of_getElem? hl)
      have h2 := List.all_eq_true.mp h1 o (List.mem_of_getElem? ho)
      subst hi
      exact h2
    · cases hi
  · cases hi
set_option maxRecDepth 100000 in
theorem s_ents_ln : s_ents.all (fun l => l.all (fun e => s_lnC e.1.2.2.2)) = true := by decide +kernel
theorem s_ent_ln {z : Nat} {e : sMeth × sMT} (h : s_ent z = some e) : s_Ld e.1.2.2.2 := by
  unfold s_ent at h
  split at h
  · rename_i l hl
    have h1 := List.all_eq_true.mp s_ents_ln l (List.mem_of_getElem? hl)
    have h2 := List.all_eq_true.mp h1 e (List.mem_of_getElem? h)
    exact s_Ld_of h2
  · cases h
theorem s_prog_ent {z : Nat} {ν : sMeth} (h : s_prog z = some ν) : ∃ e, s_ent z = some e ∧ e.1 = ν := by
  unfold s_prog at h
  split at h
  · rename_i l hl
    split at h
    · rename_i e he
      cases h
      exact ⟨e, by unfold s_ent; rw [hl]; exact he, rfl⟩
    · cases h
  · cases h
theorem s_goodG {w : Cond} (h : w ∈ s_G) : (w.onTables && w.keeps) = true ∨ ∃ ty, w = .arrayClass ty := good_of_word (List.mem_filter.mp h).2
theorem s_GG {w : Cond} (h : w ∈ s_G) : GoodIn s_G (w :: s_G) := fun x hx => (List.mem_cons.mp hx).elim (fun e => by subst e; exact ⟨h, s_goodG h⟩) (fun hx => ⟨hx, s_goodG hx⟩)
theorem s_mok_sp {e : sMeth × sMT} (h : s_mok e = true) : plainName e.2.1.1.cls = true ∧ Cond.code e.2.1.1 e.2.1.2 e.1.1 e.1.2.1 ∈ s_G ∧ s_Cd e.2.2.1.1 e.2.2.1.2.1 e.2.1.2 e.1.2.2.2 ∧ (parseMethodDescriptor e.2.1.1.desc).map (fun d => d.parameters.length) = some e.2.2.1.2.2.2 ∧ e.2.1.1.cls = s_cn e.2.2.1.1 ∧ (e.2.1.1.cls ≠ "java/lang/invoke/MethodHandle" ∧ e.2.1.1.cls ≠ "java/lang/invoke/VarHandle") ∧ Cond.initialized e.2.1.1.cls ∈ s_G ∧ (e.2.2.1.2.2.1 = true → Cond.static e.2.1.1 ∈ s_G) ∧ (e.2.2.1.2.2.1 = false → Cond.instanceMethod e.2.1.1 ∈ s_G) ∧ (e.2.2.1.2.2.1 = false → e.2.2.1.2.1 = false → Cond.selects e.2.1.1.cls e.2.1.1 e.2.1.1 ∈ s_G ∧ e.2.2.1.1 = e.1.2.2.1 ∧ e.1.2.2.1 < 12) ∧ (e.2.2.1.2.1 = true → e.2.1.1.name = "<init>" ∧ e.1.2.1 = none ∧ e.2.2.1.2.2.1 = false) := by
  unfold s_mok at h
  simp only [Bool.and_eq_true, decide_eq_true_eq] at h
  obtain ⟨h1, h2, h3, h4, h5, h6, h7, h8, h9, h10⟩ := h
  refine ⟨h1, s_atG h2 rfl, s_Cd_of h3, h4, h5, h6, s_atG h7 rfl, fun hs => ?_, fun hs => ?_, fun hs hi => ?_, fun hi => ?_⟩
  · rw [hs] at h8
    exact s_atG (of_decide_eq_true h8) rfl
  · rw [hs] at h8
    exact s_atG (of_decide_eq_true h8) rfl
  · rw [hs, hi] at h9
    simp only [Bool.false_or, Bool.and_eq_true, decide_eq_true_eq] at h9
    exact ⟨s_atG h9.1 rfl, h9.2.1, h9.2.2⟩
  · rw [hi] at h10
    simp only [Bool.not_true, Bool.false_or, Bool.and_eq_true, decide_eq_true_eq, Bool.not_eq_true'] at h10
    exact ⟨h10.1.1, h10.1.2, h10.2⟩
theorem s_cat_sum {tt α : Nat → Nat} {r : List Value} : ((r.map (s_tr tt α)).map fun v => v.category).sum = (r.map fun v => v.category).sum := by
  rw [List.map_map]
  exact congrArg List.sum (List.map_congr_left fun v _ => s_tr_cat tt α v)
theorem s_sl_len {tt α : Nat → Nat} {as : List Value} : (lg_sl (as.map (s_tr tt α))).length = (lg_sl as).length := by
  unfold lg_sl
  induction as with
  | nil => rfl
  | cons v vs ih =>
    simp only [List.map_cons, List.flatMap_cons, List.length_append, ih, s_tr_cat]
    by_cases h : v.category = 2 <;> simp [h]
theorem s_args_tr {tt α : Nat → Nat} {as : List Value} : ∀ k, lv_args k (as.map (s_tr tt α)) = s_trl tt α (lv_args k as) := by
  induction as with
  | nil => intro k; rfl
  | cons v vs ih =>
    intro k
    simp only [List.map_cons, lv_args, s_trl, s_tr_cat]
    refine congrArg (fun z => (k, s_tr tt α v) :: z) (ih _)
theorem s_kVat {o x w : Nat} (h : s_look s_tV o x = some w) : ∃ e, s_ent (w / 8) = some e ∧ Cond.methodLink (s_cn o) x e.2.1.1 ∈ s_G ∧ e.2.2.1.2.2.2 = w % 8 ∧ e.2.2.1.2.1 = false ∧ e.2.2.1.2.2.1 = false := by
  obtain ⟨p, hp⟩ := s_look_mem h
  have h1 := List.all_eq_true.mp s_kV_ok _ hp
  unfold s_kV at h1
  dsimp only at h1
  split at h1
  · rename_i e he
    simp only [Bool.and_eq_true, decide_eq_true_eq, Bool.not_eq_true'] at h1
    exact ⟨e, he, s_atG h1.1 rfl, h1.2.1, h1.2.2.1, h1.2.2.2⟩
  · cases h1
theorem s_kIat {o x w : Nat} (h : s_look s_tI o x = some w) (hw : w ≠ 0) : ∃ e, s_ent (w / 8) = some e ∧ Cond.methodLink (s_cn o) x e.2.1.1 ∈ s_G ∧ e.2.2.1.2.2.2 = w % 8 ∧ e.2.2.1.2.1 = true := by
  obtain ⟨p, hp⟩ := s_look_mem h
  have h1 := List.all_eq_true.mp s_kI_ok _ hp
  unfold s_kI at h1
  dsimp only at h1
  have hb : Nat.beq w 0 = false := by
    cases hz : Nat.beq w 0 with
    | true => exact absurd (Nat.eq_of_beq_eq_true hz) hw
    | false => rfl
  rw [hb, cond_false] at h1
  split at h1
  · rename_i e he
    simp only [Bool.and_eq_true, decide_eq_true_eq] at h1
    exact ⟨e, he, s_atG h1.1 rfl, h1.2.1, h1.2.2⟩
  · cases h1
theorem s_kI0 {o x : Nat} (h : s_look s_tI o x = some 0) : Cond.methodLink (s_cn o) x Lib.objectInit ∈ s_G := by
  obtain ⟨p, hp⟩ := s_look_mem h
  have h1 := List.all_eq_true.mp s_kI_ok _ hp
  unfold s_kI at h1
  dsimp only at h1
  rw [show Nat.beq 0 0 = true from rfl, cond_true] at h1
  exact s_atG (of_decide_eq_true h1) rfl
theorem s_kTat {o x w : Nat} (h : s_look s_tT o x = some w) : ∃ e, s_ent (w / 8) = some e ∧ Cond.methodLink (s_cn o) x e.2.1.1 ∈ s_G ∧ e.2.2.1.2.2.2 = w % 8 ∧ e.2.2.1.2.2.1 = true := by
  obtain ⟨p, hp⟩ := s_look_mem h
  have h1 := List.all_eq_true.mp s_kT_ok _ hp
  unfold s_kT at h1
  dsimp only at h1
  split at h1
  · rename_i e he
    simp only [Bool.and_eq_true, decide_eq_true_eq] at h1
    exact ⟨e, he, s_atG h1.1 rfl, h1.2.1, h1.2.2⟩
  · cases h1
theorem s_kHat {o x w : Nat} (h : s_look s_tH o x = some w) : ∃ e, s_ent (w / 8) = some e ∧ s_nest = Cond.methodLinkNest (s_cn o) x e.2.1.1 "OldestLaw" ∧ e.2.2.1.2.2.2 = w % 8 ∧ e.2.2.1.2.2.1 = true := by
  obtain ⟨p, hp⟩ := s_look_mem h
  have h1 := List.all_eq_true.mp s_kH_ok _ hp
  unfold s_kH at h1
  dsimp only at h1
  split at h1
  · rename_i e he
    simp only [Bool.and_eq_true, decide_eq_true_eq] at h1
    exact ⟨e, he, h1.1, h1.2.1, h1.2.2⟩
  · cases h1
theorem s_kNat {o x w : Nat} (h : s_look s_tN o x = some w) : w < 3 ∧ Cond.methodLink (s_cn o) x (if w = 0 then arraycopyName else if w = 1 then Lib.Math.min.name else Lib.Math.max.name) ∈ s_G := by
  obtain ⟨p, hp⟩ := s_look_mem h
  have h1 := List.all_eq_true.mp s_kN_ok _ hp
  unfold s_kN at h1
  simp only [Bool.and_eq_true, decide_eq_true_eq] at h1
  exact ⟨h1.2, s_atG h1.1 rfl⟩
theorem s_res_static {o : Nat} {ini : Bool} {r : Jvm.ClassFile.Instr} {i : Jvm.ClassFile.Instr} (h : s_res o ini r = some i) : (∀ w, i = .invokestatic w → ∃ x, r = .invokestatic x ∧ s_look s_tT o x = some w) ∧ (∀ w, i = .invokedynamic w → ∃ x, r = .invokestatic x ∧ s_look s_tN o x = some w) ∧ (∀ w k, i = .invokeinterface w k → ∃ x, r = .invokestatic x ∧ s_look s_tH o x = some w) := by
  cases r
  case invokestatic x =>
    unfold s_res at h
    dsimp only at h
    split at h
    · rename_i n hn
      cases h
      exact ⟨fun w e => by (cases e; exact ⟨x, rfl, hn⟩), fun w e => by (cases e), fun w k e => by (cases e)⟩
    · split at h
      · rename_i n hn
        cases h
        exact ⟨fun w e => by (cases e), fun w e => by (cases e; exact ⟨x, rfl, hn⟩), fun w k e => by (cases e)⟩
      · rw [Option.map_eq_some_iff] at h
        obtain ⟨n, hn, e⟩ := h
        cases e
        exact ⟨fun w e => by (cases e), fun w e => by (cases e), fun w k e => by cases e; exact ⟨x, rfl, hn⟩⟩
  case putfield x =>
    unfold s_res at h
    dsimp only at h
    split at h
    · rename_i n hn
      cases hf : s_fin n with
      | true =>
        rw [hf] at h
        cases hg : (ini && decide (s_cn o = s_cn (n / 64))) with
        | true => rw [hg] at h; cases h; exact ⟨fun w e => by (cases e), fun w e => by (cases e), fun w k e => by cases e⟩
        | false => rw [hg] at h; cases h
      | false => rw [hf] at h; cases h; exact ⟨fun w e => by (cases e), fun w e => by (cases e), fun w k e => by cases e⟩
    · cases h
  all_goals first
    | (have h : none = some i := h; cases h; done)
    | (have h : some _ = some i := h; cases h; exact ⟨fun w e => by (cases e), fun w e => by (cases e), fun w k e => by cases e⟩)
    | (unfold s_res at h
       dsimp only at h
       rw [Option.map_eq_some_iff] at h
       obtain ⟨n, hn, e⟩ := h
       cases e
       exact ⟨fun w e => by (cases e), fun w e => by (cases e), fun w k e => by cases e⟩)
def s_Pc (E : sE) (D : va_G) (cy tt α : Nat → Nat) (M : sM) (as : List Value) (sz : Nat) : Array Value → State → Prop := va_Pc (as.map (s_tr tt α)) (fun U => U.heap.size = sz ∧ va_P D vwCl (s_img cy tt α M) U.heap ∧ s_Kx D cy U ∧ va_D (fun _ => True) (s_img cy tt α M) ∧ s_Tx E tt (va_A (s_img cy tt α M) sz) U U.heap)
def s_Qc (D : va_G) (cy tt α : Nat → Nat) (n : Nat) (o : Option Value) (M' : sM) (A : Nat → Prop) : Array Value → State → Outcome → State → Prop := fun _ st oc t => (∃ β : Nat → Nat, (∀ i, i < n → β i = α i) ∧ oc = .returned (o.map (s_tr tt β)) ∧ va_P D vwCl (s_img cy tt β M') t.heap ∧ va_D A (s_img cy tt β M')) ∧ va_F A st t
abbrev s_rm (d mc ms : Nat) : Room := { frames := d, cells := mc, slots := ms, locals := 64 * d }
def s_Mt (l : Launch) (n : Nat) : Prop := ∀ (d z : Nat) (e : sMeth × sMT) (as : List Value) (M M' : sM) (o : Option Value) (E : sE) (D : va_G) (cy tt α : Nat → Nat) (sz mc ms : Nat), s_ent z = some e → s_x s_prog s_fty s_ft E n d e.1 0 (lv_args 0 as) [] M = some (o, M') → (lg_sl as).length ≤ e.1.1 → s_lok M.length as → s_Mok M.length M → M'.length = M.length + mc → s_slots M' = s_slots M + ms →
  Met l e.2.1.1 (Cond.code e.2.1.1 e.2.1.2 e.1.1 e.1.2.1 :: s_G) (s_rm d mc ms) (s_Pc E D cy tt α M as sz) (s_Qc D cy tt α M.length o M' (va_A (s_img cy tt α M) sz)) mc ms (va_A (s_img cy tt α M) sz)
def s_ro (rt : Option FieldType) (o : Option Value) (r : Jvm.ClassFile.Instr) : Prop := (∃ x, r = .ireturn ∧ o = some (.int x) ∧ s_rv rt (.int x) = true) ∨ (∃ x, r = .lreturn ∧ o = some (.long x) ∧ s_rv rt (.long x) = true) ∨ (∃ x, r = .areturn ∧ o = some (.ref x) ∧ s_rv rt (.ref x) = true) ∨ (r = .areturn ∧ o = some .null ∧ s_rv rt .null = true) ∨ (r = .return_ ∧ o = none ∧ rt = none)
def s_Fp (l : Launch) (n : Nat) : Prop := ∀ (p : Program) (e : Env) (R : Room) (s : State) (m : MethodId) (args : Array Value) (below : List Frame) (meth : Method) (c : Code) (Q : State → Prop) (own : Nat) (ini : Bool) (cc : ByteArray) (D : va_G) (cy tt : Nat → Nat) (E : sE) (A : Nat → Prop) (μ : sMeth) (MC MS : Nat) (o : Option Value) (M' : sM) (α0 : Nat → Nat) (n0 : Nat),
  s_Fr p s m args meth c own ini cc μ.1 → s_Cd own ini cc μ.2.2.2 → s_Ld μ.2.2.2 → s_Kx D cy s → s_Tx E tt A s s.heap → (∀ q, s.heap.size ≤ q → A q) → MC ≤ R.cells → MS ≤ R.slots →
  (∀ (β : Nat → Nat) (H : Heap) (locs : List Loc) (pc : Nat) (lsR : Array Slot) (r : Jvm.ClassFile.Instr), (∀ i, i < n0 → β i = α0 i) → va_P D vwCl (s_img cy tt β M') H → va_D A (s_img cy tt β M') → va_S A s.heap H locs → s_ro μ.2.1 o r → decode cc pc = .ok (r, 1) → W p l e R s m args below meth c H locs MC MS Q (F0 m pc lsR ((o.map (s_tr tt β)).toList))) →
  ∀ (d pc : Nat) (ls : sL) (st : List Value) (M : sM) (α : Nat → Nat) (H : Heap) (locs : List Loc) (cells slots : Nat) (lsR : Array Slot), d ≤ R.frames → 64 * d ≤ R.locals → n0 ≤ M.length → (∀ i, i < n0 → α i = α0 i) → s_sok M.length ls → s_lok M.length st → s_Mok M.length M → va_P D vwCl (s_img cy tt α M) H → va_D A (s_img cy tt α M) → va_S A s.heap H locs → lv_has lsR μ.1 (s_trl tt α ls) →
  s_x s_prog s_fty s_ft E n d μ pc ls st M = some (o, M') → cells + M'.length ≤ MC + M.length → slots + s_slots M' ≤ MS + s_slots M → W p l e R s m args below meth c H locs cells slots Q (F0 m pc lsR (st.map (s_tr tt α)))
theorem s_Pc_blind {E : sE} {D : va_G} {cy tt α : Nat → Nat} {M : sM} {as : List Value} {sz : Nat} : FrameBlind (s_Pc E D cy tt α M as sz) := fun a U g mk h =>
  ⟨h.1, h.2.1, h.2.2.1, h.2.2.2.1.same (u := U) (U := U.calling g mk a) rfl, h.2.2.2.2.1, (fun j hj => va_Z.moved (u := U) (U := U.calling g mk a) (Vm.Alike.refl U.vm) (h.2.2.2.2.2.1 j hj)), (fun j hj => va_T.moved (u := U) (U := U.calling g mk a) (Vm.Alike.refl U.vm) (h.2.2.2.2.2.2 j hj))⟩
section S14
variable {p : Program} {l : Launch} {e : Env} {R : Room} {s : State} {m : MethodId} {args : Array Value} {below : List Frame} {meth : Method} {c : Code} {H : Heap} {locs : List Loc} {cells slots : Nat} {Q : State → Prop}
variable {own mx : Nat} {ini : Bool} {cc : ByteArray} {D : va_G} {cy tt α : Nat → Nat} {E : sE} {A : Nat → Prop} {M M2 : sM}
theorem s_inA (hD : va_D A (s_img cy tt α M)) (hS : va_S A s.heap H locs) (hA : ∀ q, s.heap.size ≤ q → A q) : ∀ q, va_A (s_img cy tt α M) H.size q → A q := fun q h => h.elim (fun ⟨k, z, hk⟩ => hD.2 k _ hk) (fun h => hA q (Nat.le_trans hS.1 h))
theorem s_run {mc ms pc : Nat} {ls : Array Slot} {st0 rest : List Value} {a : Array Value} {v : Option Value} (hr : va_Run p l e R s m args below meth c H locs cells slots mc ms (F0 m pc ls st0) rest (s_Qc D cy tt α M.length v M2 (va_A (s_img cy tt α M) H.size) a) (va_A (s_img cy tt α M) H.size)) (hD : va_D A (s_img cy tt α M)) (hS : va_S A s.heap H locs) (hA : ∀ q, s.heap.size ≤ q → A q)
    (kk : ∀ (β : Nat → Nat) (H1 : Heap) (locs1 : List Loc), (∀ i, i < M.length → β i = α i) → va_P D vwCl (s_img cy tt β M2) H1 → va_D A (s_img cy tt β M2) → va_S A s.heap H1 locs1 → W p l e R s m args below meth c H1 locs1 (cells + mc) (slots + ms) Q (F0 m (pc + 3) ls ((v.map (s_tr tt β)).toList ++ rest))) : W p l e R s m args below meth c H locs cells slots Q (F0 m pc ls st0) := by
  intro T hT X
  obtain ⟨v', st₀, t, T', L, h0, X', hL, e1, e2, ⟨⟨β, hβ, hv, hP1, hD1⟩, hz, hk⟩, st⟩ := hr T hT X
  cases hv
  rw [h0] at hz hk
  have hin := s_inA hD hS hA
  have hsz := hS.1
  obtain ⟨t2, a1, b1⟩ := kk β T'.heap (locs ++ L) hβ (by rw [e1]; exact hP1) (hD1.weaken (fun _ _ _ h => hin _ h))
    ⟨Nat.le_trans hS.1 (by rw [e1]; exact hz), fun q h1 h2 => by rw [e1, hk q (Nat.lt_of_lt_of_le h1 hS.1) (fun z => h2 (hin q z))]; exact hS.2.1 q h1 h2, fun q hq => by
      rcases List.mem_append.mp hq with h | h
      · exact hS.2.2 q h
      · exact hin _ (hL q h)⟩ T' rfl X'
  exact ⟨t2, st t2 a1, b1⟩
theorem s_pre {as : List Value} (hK : s_Kx D cy s) (hT : s_Tx E tt A s s.heap) (hP : va_P D vwCl (s_img cy tt α M) H) (hD : va_D A (s_img cy tt α M)) (hS : va_S A s.heap H locs) (hA : ∀ q, s.heap.size ≤ q → A q) : ∀ U : State, U.heap = H → s.WarmedH U.vm → s_Pc E D cy tt α M as H.size (as.map (s_tr tt α)).toArray U := fun U hU hW => by
  refine ⟨rfl, by rw [hU], by rw [hU]; exact hP, hK.warm hW, hD.weaken (fun _ _ _ _ => trivial), ?_⟩
  rw [hU]
  exact hT.go hS (s_inA hD hS hA) hW.alike
theorem s_Fr.fix (hF : s_Fr p s m args meth c own ini cc mx) : CallFix p m c cc mx s args s_G (s_cn own) := ⟨hF.1, hF.2.1, hF.2.2.1, hF.2.2.2.1, hF.2.2.2.2.1⟩
end S14
end
section
/-! THE SIMULATION: a run of the small machine is a run of the machine (s_main); a method's contract out of a run of it (s_met) -/
section S15
variable {p : Program} {l : Launch} {e : Env} {R : Room} {s : State} {m : MethodId} {args : Array Value} {below : List Frame} {meth : Method} {c : Code} {H : Heap} {locs : List Loc} {cells slots : Nat} {Q : State → Prop}
variable {own mx : Nat} {ini : Bool} {cc : ByteArray} {D : va_G} {cy tt α : Nat → Nat} {E : sE} {A : Nat → Prop} {M M2 : sM}
set_option maxHeartbeats 4000000 in
/-- a call, out of the callee's contract -/
theorem s_callW {n : Nat} (hMt : s_Mt l n) (hF : s_Fr p s m args meth c own ini cc mx) (hK : s_Kx D cy s) (hT : s_Tx E tt A s s.heap) (hP : va_P D vwCl (s_img cy tt α M) H) (hD : va_D A (s_img cy tt α M)) (hS : va_S A s.heap H locs) (hA : ∀ q, s.heap.size ≤ q → A q) {d z : Nat} {en : sMeth × sMT} {as r st : List Value} {v : Option Value} {pc x : Nat} {lsR : Array Slot} (hsz : lsR.size = mx) (hen : s_ent z = some en) (hroom : s_room en.1.1 as r = true) (hrun : s_x s_prog s_fty s_ft E n d en.1 0 (lv_args 0 as) [] M = some (v, M2)) (has : s_lok M.length as) (hM : s_Mok M.length M) (h1 : M.length ≤ M2.length) (h2 : s_slots M ≤ s_slots M2) (hfr : d + 1 ≤ R.frames) (hlo : 64 * (d + 1) ≤ R.locals) (hc : cells + (M2.length - M.length) ≤ R.cells) (hs : slots + (s_slots M2 - s_slots M) ≤ R.slots)
    (kind : (∃ a rest, as = .ref a :: rest ∧ st = rest.reverse ++ .ref a :: r ∧ s_kd M a = en.1.2.2.1 ∧ decode cc pc = .ok (.invokevirtual x, 3) ∧ Cond.methodLink (s_cn own) x en.2.1.1 ∈ s_G ∧ en.2.2.1.2.1 = false ∧ en.2.2.1.2.2.1 = false ∧ en.2.2.1.2.2.2 = rest.length) ∨ (∃ a rest, as = .ref a :: rest ∧ st = rest.reverse ++ .ref a :: r ∧ decode cc pc = .ok (.invokespecial x, 3) ∧ Cond.methodLink (s_cn own) x en.2.1.1 ∈ s_G ∧ en.2.2.1.2.1 = true ∧ en.2.2.1.2.2.2 = rest.length) ∨ (st = as.reverse ++ r ∧ decode cc pc = .ok (.invokestatic x, 3) ∧ (Cond.methodLink (s_cn own) x en.2.1.1 ∈ s_G ∨ s_nest = Cond.methodLinkNest (s_cn own) x en.2.1.1 "OldestLaw") ∧ en.2.2.1.2.2.1 = true ∧ en.2.2.1.2.2.2 = as.length))
    (kk : ∀ (β : Nat → Nat) (H1 : Heap) (locs1 : List Loc), (∀ i, i < M.length → β i = α i) → va_P D vwCl (s_img cy tt β M2) H1 → va_D A (s_img cy tt β M2) → va_S A s.heap H1 locs1 → W p l e R s m args below meth c H1 locs1 (cells + (M2.length - M.length)) (slots + (s_slots M2 - s_slots M)) Q (F0 m (pc + 3) lsR ((v.map (s_tr tt β)).toList ++ r.map (s_tr tt α)))) : W p l e R s m args below meth c H locs cells slots Q (F0 m pc lsR (st.map (s_tr tt α))) := by
  have hm := s_mok_sp (s_ent_ok hen)
  obtain ⟨m1, m2, m3, m4, m5, m6, m7, m8, m9, m10, m11⟩ := hm
  unfold s_room at hroom
  simp only [Bool.and_eq_true] at hroom
  have r1 : (r.map fun v => v.category).sum ≤ 8 := Nat.le_of_ble_eq_true hroom.1
  have r2 : (lg_sl as).length ≤ en.1.1 := Nat.le_of_ble_eq_true hroom.2.1
  have r3 : en.1.1 ≤ 40 := Nat.le_of_ble_eq_true hroom.2.2
  have hMet := hMt d z en as M M2 v E D cy tt α H.size (M2.length - M.length) (s_slots M2 - s_slots M) hen hrun r2 has hM (Nat.add_sub_of_le h1).symm (Nat.add_sub_of_le h2).symm
  have hr1 : ((r.map (s_tr tt α)).map fun v => v.category).sum ≤ 8 := by rw [s_cat_sum]; exact r1
  have hR : (s_rm d (M2.length - M.length) (s_slots M2 - s_slots M)).frames + 1 ≤ R.frames ∧ 8 + (en.1.1 + 11) + (s_rm d (M2.length - M.length) (s_slots M2 - s_slots M)).locals ≤ R.locals := ⟨hfr, by show 8 + (en.1.1 + 11) + 64 * d ≤ R.locals; omega⟩
  have hts := hF.2.2.2.2.1
  have hB : ∀ {k : Nat}, en.2.2.1.2.2.2 = k → Cond.methodLink (s_cn own) x en.2.1.1 ∈ s_G → CallB R s args (s_cn own) x en.2.1.1 en.2.1.2 en.1.1 en.1.2.1 (Cond.code en.2.1.1 en.2.1.2 en.1.1 en.1.2.1 :: s_G) (s_rm d (M2.length - M.length) (s_slots M2 - s_slots M)) (M2.length - M.length) (s_slots M2 - s_slots M) k := fun hk hl => callB_of (Ts := s_G) _ hts (s_GG m2) rfl rfl rfl (hts _ m7) (hts _ hl) ⟨m6.1, m6.2, by rw [m4, hk]⟩ hR
  refine s_run (st0 := st.map (s_tr tt α)) (rest := r.map (s_tr tt α)) (a := (as.map (s_tr tt α)).toArray) ?_ hD hS hA kk
  rcases kind with ⟨a, rest, rfl, rfl, k3, k4, k5, k6, k7, k8⟩ | ⟨a, rest, rfl, rfl, k4, k5, k6, k8⟩ | ⟨rfl, k4, k5, k7, k8⟩
  · obtain ⟨g0, g1, g3⟩ := m10 k7 k6
    have hMa : ∃ fs, M[a]? = some (en.1.2.2.1, fs) := by
      unfold s_kd at k3
      split at k3
      · rename_i c9 hc9
        exact ⟨c9.2, by rw [hc9, ← k3]⟩
      · omega
    obtain ⟨fs, hfs⟩ := hMa
    have h3 := s_img_at (cy := cy) (tt := tt) (α := α) hfs
    rw [show s_im cy tt α (en.1.2.2.1, fs) = .inr (en.1.2.2.1, fs.map (s_tr tt α)) from if_pos g3] at h3
    obtain ⟨q9, hq9⟩ : ∃ q, vwCl[en.1.2.2.1]? = some q := ⟨_, List.getElem?_eq_getElem (show en.1.2.2.1 < vwCl.length from g3)⟩
    have hcn : q9.1 = en.2.1.1.cls := by
      have h9 := (s_clok (C := q9.1) (T := q9.2.1) (N := q9.2.2) hq9).2.2.2.2.2.2
      rw [m5, g1, ← h9]
    have hrv := va_recv hK.1 hP hq9 h3
    rw [hcn] at hrv
    refine va_runV (C := en.2.1.1.cls) (As := rest.map (s_tr tt α)) hF.fix hMet ⟨hB k8 k5, hts _ (m9 k7), hts _ g0⟩ ⟨s_Pc_blind, hrv, s_pre hK hT hP hD hS hA⟩ rfl (by rw [List.length_map]) hsz (by simp [s_tr]) (lv_room hr1) k4 ⟨hc, hs⟩
  · obtain ⟨g1, g2, g3⟩ := m11 k6
    have hB2 := hB k8 k5
    rw [g2] at hB2 hMet
    exact va_runI (As := rest.map (s_tr tt α)) hF.fix hMet ⟨hB2, g1, hts _ (m9 g3)⟩ ⟨s_Pc_blind, s_pre hK hT hP hD hS hA⟩ rfl (by rw [List.length_map]) hsz (by simp [s_tr]) (lv_room hr1) k4 ⟨hc, hs⟩
  · rcases k5 with k5 | k5
    · exact va_runS (As := as.map (s_tr tt α)) hF.fix hMet ⟨hB k8 k5, hts _ (m8 k7)⟩ ⟨s_Pc_blind, s_pre hK hT hP hD hS hA⟩ rfl (by rw [List.length_map]) hsz (by simp) (lv_room hr1) k4 ⟨hc, hs⟩
    · have hnw := hK.2.2.2.2
      rw [k5] at hnw
      exact va_runSN (As := as.map (s_tr tt α)) hF.fix hMet ⟨va_cnB _ hts (s_GG m2) rfl rfl rfl hnw (hts _ m7) ⟨m6.1, m6.2, by rw [m4, k8]⟩ hR, hts _ (m8 k7), trivial⟩ ⟨s_Pc_blind, s_pre hK hT hP hD hS hA⟩ rfl (by rw [List.length_map]) hsz (by simp) (lv_room hr1) k4 ⟨hc, hs⟩
end S15
theorem s_rv_i {rt : Option FieldType} {x : Int32} (h : s_rv rt (.int x) = true) : rt = some .int ∨ (rt = some .boolean ∧ narrow .boolean (.int x) = .int x) := by
  unfold s_rv at h
  split at h
  · exact Or.inl rfl
  · rename_i y heq
    cases heq
    refine Or.inr ⟨rfl, ?_⟩
    rcases (Bool.or_eq_true _ _).mp h with h | h
    · rw [of_decide_eq_true h]; exact narrow_b0
    · rw [of_decide_eq_true h]; exact narrow_b1
  all_goals first
    | (rename_i heq; cases heq; done)
    | cases h
theorem s_rv_l {rt : Option FieldType} {x : Int64} (h : s_rv rt (.long x) = true) : rt = some .long := by
  unfold s_rv at h
  split at h
  all_goals first
    | rfl
    | (rename_i heq; cases heq; done)
    | cases h
theorem s_rv_r {rt : Option FieldType} {x : Nat} (h : s_rv rt (.ref x) = true) : ∃ n, rt = some (.object n) := by
  unfold s_rv at h
  split at h
  all_goals first
    | exact ⟨_, rfl⟩
    | (rename_i heq; cases heq; done)
    | cases h
theorem s_rv_n {rt : Option FieldType} (h : s_rv rt .null = true) : ∃ n, rt = some (.object n) := by
  unfold s_rv at h
  split at h
  all_goals first
    | exact ⟨_, rfl⟩
    | (rename_i heq; cases heq; done)
    | cases h
set_option maxHeartbeats 4000000 in
theorem s_met_of {l : Launch} {n : Nat} (hF : s_Fp l n) : s_Mt l n := by
  intro d z en as M M' o E D cy tt α sz mc ms hen hrun hlen has hM hlc hsl
  obtain ⟨m1, m2, m3, m4, m5, m6, m7, m8, m9, m10, m11⟩ := s_mok_sp (s_ent_ok hen)
  refine Met.ofW (cc := en.2.1.2) (maxL := en.1.1) (ret := en.1.2.1) m1 rfl ?_
  intro p env s m args below meth c s₁ B hml hv
  obtain ⟨rfl, hsz, hP, hK, hD0, hT⟩ := hv
  have hx := B.exec
  have hb := B.bytes
  have hr := B.returns
  have hts := atoms_spec (ws := Cond.code en.2.1.1 en.2.1.2 en.1.1 en.1.2.1 :: s_G) B.pre
  have hown : s.vm.findClass (s_cn en.2.2.1.1) = some m.cls := by rw [← m5]; exact findClass_of_methodNamed B.named
  have hlocks := B.notSynchronized
  have hin : en.2.2.1.2.1 = true → meth.name = "<init>" := fun hi => ((name_of_methodNamed B.named B.method).1).trans (m11 hi).1
  subst hsz
  have hD := hD0.self (sz := s.heap.size)
  have hS : va_S (va_A (s_img cy tt α M) s.heap.size) s.heap s.heap [] := va_S.rf
  have hl := lv_entry (as.map (s_tr tt α)) (n := en.1.1) (by rw [s_sl_len]; exact hlen)
  rw [lg_entry_eq]
  generalize (lg_sl (as.map (s_tr tt α)) ++ List.replicate (en.1.1 - (lg_sl (as.map (s_tr tt α))).length) Slot.unset).toArray = ls at hl ⊢
  rw [s_args_tr] at hl
  refine hF p env (s_rm d mc ms) s m _ below meth c (MQ below (s_Qc D cy tt α M.length o M' (va_A (s_img cy tt α M) s.heap.size)) _ s mc ms (va_A (s_img cy tt α M) s.heap.size)) en.2.2.1.1 en.2.2.1.2.1 en.2.1.2 D cy tt E (va_A (s_img cy tt α M) s.heap.size) en.1 mc ms o M' α M.length ⟨hx, hb, hml, hown, fun w hw => hts w (List.mem_cons_of_mem _ hw), hin⟩ m3 (s_ent_ln hen) hK hT (fun q hq => Or.inr hq) (Nat.le_refl _) (Nat.le_refl _) ?_ d 0 (lv_args 0 as) [] M α s.heap [] 0 0 ls (Nat.le_refl _) (Nat.le_refl _) (Nat.le_refl _) (fun _ _ => rfl) (s_args_ok has 0) s_lok_nil hM hP hD hS hl hrun (by omega) (by omega)
  intro β H locs pc lsR r hβ hP1 hD1 hS1 hro hd
  rcases hro with ⟨x, rfl, rfl, hv⟩ | ⟨x, rfl, rfl, hv⟩ | ⟨x, rfl, rfl, hv⟩ | ⟨rfl, rfl, hv⟩ | ⟨rfl, rfl, hv⟩
  · rcases s_rv_i hv with h9 | ⟨h9, h8⟩
    · exact W.iret hx hb (hr.trans h9) (fun t ht hW => ⟨⟨β, hβ, rfl, by rw [ht]; exact hP1, hD1⟩, hS1.F ht⟩) hS1.2.2 hd
    · exact W.zret hx hb (hr.trans h9) h8 (fun t ht hW => ⟨⟨β, hβ, rfl, by rw [ht]; exact hP1, hD1⟩, hS1.F ht⟩) hS1.2.2 hd
  · exact W.lret hx hb (hr.trans (s_rv_l hv)) (fun t ht hW => ⟨⟨β, hβ, rfl, by rw [ht]; exact hP1, hD1⟩, hS1.F ht⟩) hS1.2.2 hd
  · obtain ⟨k, h9⟩ := s_rv_r hv
    exact W.aret hx hb (hr.trans h9) (Or.inl ⟨k, rfl⟩) (Or.inr ⟨_, rfl⟩) (fun t ht hW => ⟨⟨β, hβ, rfl, by rw [ht]; exact hP1, hD1⟩, hS1.F ht⟩) hS1.2.2 hd
  · obtain ⟨k, h9⟩ := s_rv_n hv
    exact W.aret hx hb (hr.trans h9) (Or.inl ⟨k, rfl⟩) (Or.inl rfl) (fun t ht hW => ⟨⟨β, hβ, rfl, by rw [ht]; exact hP1, hD1⟩, hS1.F ht⟩) hS1.2.2 hd
  · exact W.vret hx hb (hr.trans hv) (fun t ht hW => ⟨⟨β, hβ, rfl, by rw [ht]; exact hP1, hD1⟩, hS1.F ht⟩) hS1.2.2 hd
end
section
/-! THE INDUCTION over the small machine's steps -/
theorem s_tol_tr {tt α β : Nat → Nat} {n : Nat} {v : Option Value} {r : List Value} (h : ∀ i, i < n → β i = α i) (hr : s_lok n r) : (v.toList ++ r).map (s_tr tt β) = (v.map (s_tr tt β)).toList ++ r.map (s_tr tt α) := by
  rw [List.map_append, s_trs_eq h hr]
  cases v <;> rfl
theorem s_im_set_i {cy : Nat → ClassId} {tt α : Nat → Nat} {vs ws : List Value} (h : ws.length = vs.length) : (Sum.inl (cy 13, vs.length, Sum.inl (s_iv ws)) : va_E) = s_im cy tt α (13, ws) := by rw [s_im_i, h]
theorem s_im_set_l {cy : Nat → ClassId} {tt α : Nat → Nat} {vs ws : List Value} (h : ws.length = vs.length) : (Sum.inl (cy 14, vs.length, Sum.inr (Sum.inl (s_lv ws))) : va_E) = s_im cy tt α (14, ws) := by rw [s_im_l, h]
set_option maxRecDepth 100000 in
theorem s_w_ac : Cond.native arraycopyName ∈ s_G ∧ Cond.static arraycopyName ∈ s_G ∧ Cond.initialized "java/lang/System" ∈ s_G := ⟨s_inG (by decide +kernel) rfl, s_inG (by decide +kernel) rfl, s_inG (by decide +kernel) rfl⟩
set_option maxRecDepth 100000 in
theorem s_w_mm : Cond.static Lib.Math.min.name ∈ s_G ∧ Cond.static Lib.Math.max.name ∈ s_G ∧ Cond.initialized "java/lang/Math" ∈ s_G ∧ Cond.code Lib.Math.min.name Lib.Math.min.code 2 (some .int) ∈ s_G ∧ Cond.code Lib.Math.max.name Lib.Math.max.code 2 (some .int) ∈ s_G := ⟨s_inG (by decide +kernel) rfl, s_inG (by decide +kernel) rfl, s_inG (by decide +kernel) rfl, s_inG (by decide +kernel) rfl, s_inG (by decide +kernel) rfl⟩
set_option maxRecDepth 100000 in
theorem s_w_oi : Cond.instanceMethod Lib.objectInit ∈ s_G ∧ Cond.code Lib.objectInit ⟨#[0xb1]⟩ 1 none ∈ s_G := ⟨s_inG (by decide +kernel) rfl, s_inG (by decide +kernel) rfl⟩
set_option maxHeartbeats 8000000 in
theorem s_Fp_succ {l : Launch} {n : Nat} (hn : s_Fp l n) : s_Fp l (n + 1) := by
  intro p e R s m args below meth c Q own ini cc D cy tt E A μ MC MS o M' α0 n0 hF hC hL hK hT hA hMC hMS hret d pc ls st M α H locs cells slots lsR hdf hdl hn0 hα hls hst hM hP hD hS hl hx hcl hsl
  have hMt := s_met_of hn
  obtain ⟨hx1, hb, hml, hown, hts, hin⟩ := id hF
  rw [s_xs] at hx
  obtain ⟨i, len, hf, hx⟩ := s_step_sp hx
  obtain ⟨r, hd, hr⟩ := hC pc (i, len) hf
  have hn2 := hL pc (i, len) hf
  dsimp only at hd hr hn2
  -- what follows a call
  have after : ∀ {d' : Nat} {v : Option Value} {as rr : List Value} {M2 : sM} {ν : sMeth}, d = d' + 1 → s_lok M.length as → s_lok M.length rr → s_x s_prog s_fty s_ft E n d' ν 0 (lv_args 0 as) [] M = some (v, M2) → s_x s_prog s_fty s_ft E n (d' + 1) μ (pc + 3) ls (v.toList ++ rr) M2 = some (o, M') → (M.length ≤ M2.length ∧ s_slots M ≤ s_slots M2 ∧ M2.length ≤ M'.length ∧ s_slots M2 ≤ s_slots M') ∧ ∀ (β : Nat → Nat) (H1 : Heap) (locs1 : List Loc), (∀ i, i < M.length → β i = α i) → va_P D vwCl (s_img cy tt β M2) H1 → va_D A (s_img cy tt β M2) → va_S A s.heap H1 locs1 → W p l e R s m args below meth c H1 locs1 (cells + (M2.length - M.length)) (slots + (s_slots M2 - s_slots M)) Q (F0 m (pc + 3) lsR ((v.map (s_tr tt β)).toList ++ rr.map (s_tr tt α))) := by
    intro d' v as rr M2 ν hd' has hrr h1 h2
    subst hd'
    obtain ⟨g1, g2, g3, g4⟩ := s_inv n _ _ _ _ _ _ _ _ h1 (s_args_ok has 0) s_lok_nil hM
    have k2 := s_tol_ok g4 (s_lok_le g1 hrr)
    obtain ⟨f1, f2, f3, f4⟩ := s_inv n _ _ _ _ _ _ _ _ h2 (s_sok_le g1 hls) k2 g3
    refine ⟨⟨g1, g2, f1, f2⟩, fun β H1 locs1 hβ hP1 hD1 hS1 => ?_⟩
    rw [← s_tol_tr hβ hrr]
    exact hn p e R s m args below meth c Q own ini cc D cy tt E A μ MC MS o M' α0 n0 hF hC hL hK hT hA hMC hMS hret (d' + 1) (pc + 3) ls (v.toList ++ rr) M2 β H1 locs1 _ _ lsR hdf hdl (Nat.le_trans hn0 g1) (fun i hi => (hβ i (Nat.lt_of_lt_of_le hi hn0)).trans (hα i hi)) (s_sok_le g1 hls) k2 g3 hP1 hD1 hS1 (by rw [s_trl_eq hβ hls]; exact hl) h2 (by omega) (by omega)
  rcases hx with ⟨w, as, x, rr, ν, rfl, h1, h2, h3, h4⟩ | ⟨x, rr, d', rfl, rfl, rfl, h1, h2⟩ | ⟨w, as, x, rr, ν, rfl, hw0, h1, h2, h4⟩ | ⟨w, as, rr, ν, rfl, h1, h2, h4⟩ | ⟨w, k, as, rr, ν, rfl, h1, h2, h4⟩ | ⟨rr, d', M2, rfl, rfl, h1, h2⟩ | ⟨w, x, y, rr, d', rfl, hw0, rfl, rfl, h1, h2⟩ | ⟨x, rfl, rfl, h1, rfl, rfl⟩ | ⟨x, rfl, rfl, h1, rfl, rfl⟩ | ⟨x, rfl, rfl, h1, rfl, rfl⟩ | ⟨rfl, rfl, h1, rfl, rfl⟩ | ⟨rfl, rfl, h1, rfl, rfl⟩ | ⟨rr, M2, h1, h2⟩ | ⟨rr, M2, h1, h2⟩ | ⟨P, ls', st', h1, h2⟩
  · -- invokevirtual
    obtain ⟨xi, rfl, hlk⟩ := s_res_invokevirtual hr
    obtain rfl : len = 3 := (of_decide_eq_true hn2).symm
    obtain ⟨en, he1, he2, he3, he4, he5⟩ := s_kVat hlk
    obtain ⟨en', he', rfl⟩ := s_prog_ent h2
    cases he1.symm.trans he'
    obtain ⟨d', v, M2, rfl, hroom, hrun, hcont⟩ := s_call_sp h4
    obtain ⟨hs1, hs2⟩ := s_split_sp _ _ _ _ _ h1
    obtain ⟨ho1, ho2⟩ := s_split_ok h1 hst
    have has : s_lok M.length (.ref x :: as) := s_lok_c.mpr ⟨(s_lok_c.mp ho2).1, ho1⟩
    obtain ⟨⟨a1, a2, a3, a4⟩, kk⟩ := after rfl has (s_lok_c.mp ho2).2 hrun hcont
    exact s_callW hMt hF hK hT hP hD hS hA hl.1 he1 hroom hrun has hM a1 a2 hdf hdl (by omega) (by omega) (Or.inl ⟨x, as, rfl, hs1.symm, h3, hd, he2, he4, he5, by rw [he3, hs2]; simp⟩) kk
  · -- Object.<init>
    obtain ⟨xi, rfl, hlk⟩ := s_res_invokespecial hr
    obtain rfl : len = 3 := (of_decide_eq_true hn2).symm
    refine W.objInit hx1 hb hown (hts _ (s_kI0 hlk)) (hts _ s_w_oi.1) (hts _ s_w_oi.2) (g := F0 m pc lsR (.ref (α x) :: rr.map (s_tr tt α))) rfl (hl.1.trans hml.symm) rfl hd (Nat.le_trans (Nat.le_add_left 1 d') hdf) ?_ ?_
    · have h9 : 2 * (F0 m pc lsR (.ref (α x) :: rr.map (s_tr tt α))).monitorRoom + ((rr.map (s_tr tt α)).map fun v => v.category).sum ≤ 8 := lv_room (by rw [s_cat_sum]; exact h1)
      omega
    · exact hn p e R s m args below meth c Q own ini cc D cy tt E A μ MC MS o M' α0 n0 hF hC hL hK hT hA hMC hMS hret (d' + 1) (pc + 3) ls rr M α H locs cells slots lsR hdf hdl hn0 hα hls (s_lok_c.mp hst).2 hM hP hD hS hl h2 hcl hsl
  · -- invokespecial
    obtain ⟨xi, rfl, hlk⟩ := s_res_invokespecial hr
    obtain rfl : len = 3 := (of_decide_eq_true hn2).symm
    obtain ⟨en, he1, he2, he3, he4⟩ := s_kIat hlk hw0
    obtain ⟨en', he', rfl⟩ := s_prog_ent h2
    cases he1.symm.trans he'
    obtain ⟨d', v, M2, rfl, hroom, hrun, hcont⟩ := s_call_sp h4
    obtain ⟨hs1, hs2⟩ := s_split_sp _ _ _ _ _ h1
    obtain ⟨ho1, ho2⟩ := s_split_ok h1 hst
    have has : s_lok M.length (.ref x :: as) := s_lok_c.mpr ⟨(s_lok_c.mp ho2).1, ho1⟩
    obtain ⟨⟨a1, a2, a3, a4⟩, kk⟩ := after rfl has (s_lok_c.mp ho2).2 hrun hcont
    exact s_callW hMt hF hK hT hP hD hS hA hl.1 he1 hroom hrun has hM a1 a2 hdf hdl (by omega) (by omega) (Or.inr (Or.inl ⟨x, as, rfl, hs1.symm, hd, he2, he4, by rw [he3, hs2]; simp⟩)) kk
  · -- invokestatic
    obtain ⟨xi, rfl, hlk⟩ := (s_res_static hr).1 _ rfl
    obtain rfl : len = 3 := (of_decide_eq_true hn2).symm
    obtain ⟨en, he1, he2, he3, he4⟩ := s_kTat hlk
    obtain ⟨en', he', rfl⟩ := s_prog_ent h2
    cases he1.symm.trans he'
    obtain ⟨d', v, M2, rfl, hroom, hrun, hcont⟩ := s_call_sp h4
    obtain ⟨hs1, hs2⟩ := s_split_sp _ _ _ _ _ h1
    obtain ⟨ho1, ho2⟩ := s_split_ok h1 hst
    obtain ⟨⟨a1, a2, a3, a4⟩, kk⟩ := after rfl ho1 ho2 hrun hcont
    exact s_callW hMt hF hK hT hP hD hS hA hl.1 he1 hroom hrun ho1 hM a1 a2 hdf hdl (by omega) (by omega) (Or.inr (Or.inr ⟨hs1.symm, hd, Or.inl he2, he4, by rw [he3, hs2]; simp⟩)) kk
  · -- a nest mate's static method
    obtain ⟨xi, rfl, hlk⟩ := (s_res_static hr).2.2 _ _ rfl
    obtain rfl : len = 3 := (of_decide_eq_true hn2).symm
    obtain ⟨en, he1, he2, he3, he4⟩ := s_kHat hlk
    obtain ⟨en', he', rfl⟩ := s_prog_ent h2
    cases he1.symm.trans he'
    obtain ⟨d', v, M2, rfl, hroom, hrun, hcont⟩ := s_call_sp h4
    obtain ⟨hs1, hs2⟩ := s_split_sp _ _ _ _ _ h1
    obtain ⟨ho1, ho2⟩ := s_split_ok h1 hst
    obtain ⟨⟨a1, a2, a3, a4⟩, kk⟩ := after rfl ho1 ho2 hrun hcont
    exact s_callW hMt hF hK hT hP hD hS hA hl.1 he1 hroom hrun ho1 hM a1 a2 hdf hdl (by omega) (by omega) (Or.inr (Or.inr ⟨hs1.symm, hd, Or.inr he2, he4, by rw [he3, hs2]; simp⟩)) kk
  · -- arraycopy
    obtain ⟨xi, rfl, hlk⟩ := (s_res_static hr).2.1 _ rfl
    obtain rfl : len = 3 := (of_decide_eq_true hn2).symm
    obtain ⟨hw3, hlink⟩ := s_kNat hlk
    rw [if_pos rfl] at hlink
    obtain ⟨k1, k2, k3, k4⟩ := s_ac_ok h1 hst hM
    obtain ⟨n1, dp, b1, sp, a, k, va, vb, rfl, g1, g2, g3, g4, g5, g6, g7, g8, g9, rfl⟩ := s_ac_sp h1
    have q0 := s_img_at (cy := cy) (tt := tt) (α := α) g1
    have q1 := s_img_at (cy := cy) (tt := tt) (α := α) g2
    have hro : ((rr.map (s_tr tt α)).map fun v => v.category).sum + (nativeFrameWords "java/lang/System" "arraycopy" 5 + 11) ≤ R.locals := by
      have e9 : nativeFrameWords "java/lang/System" "arraycopy" 5 = 7 := by decide
      rw [s_cat_sum, e9]
      omega
    have go : ∀ (H1 : Heap) (locs1 : List Loc), va_P D vwCl (s_img cy tt α (M.set b1 (k, s_cpy va vb sp.toNatClampNeg dp.toNatClampNeg n1.toNatClampNeg))) H1 → va_D A (s_img cy tt α (M.set b1 (k, s_cpy va vb sp.toNatClampNeg dp.toNatClampNeg n1.toNatClampNeg))) → va_S A s.heap H1 locs1 → W p l e R s m args below meth c H1 locs1 cells slots Q (F0 m (pc + 3) lsR (rr.map (s_tr tt α))) := fun H1 locs1 hP1 hD1 hS1 =>
      hn p e R s m args below meth c Q own ini cc D cy tt E A μ MC MS o M' α0 n0 hF hC hL hK hT hA hMC hMS hret (d' + 1) (pc + 3) ls rr _ α H1 locs1 cells slots lsR hdf hdl (by rw [k2]; exact hn0) hα (by rw [k2]; exact hls) (by rw [k2]; exact k1) (by rw [k2]; exact k4) hP1 hD1 hS1 hl h2 (by rw [k2]; exact hcl) (by rw [k3]; exact hsl)
    rcases g3 with rfl | rfl
    · rw [s_im_i] at q0 q1
      refine va_copyi hx1 hb (hml.trans hl.1.symm) hown (hts _ hlink) (hts _ s_w_ac.1) (hts _ s_w_ac.2.1) (hts _ s_w_ac.2.2) hK.1 hP hD hS a b1 1 1 q0 q1 rfl rfl rfl g4 g5 g6 g7 g8 (fun _ _ => rfl) (Nat.le_trans (Nat.le_add_left 1 d') hdf) hro hd (fun H1 locs1 hP1 hD1 hS1 => ?_)
      rw [s_iv_cpy g7 g8, s_im_set_i (tt := tt) (α := α) (s_cpy_len g7 g8), s_img_set] at hP1 hD1
      exact go H1 locs1 hP1 hD1 hS1
    · rw [s_im_l] at q0 q1
      refine va_copyl hx1 hb (hml.trans hl.1.symm) hown (hts _ hlink) (hts _ s_w_ac.1) (hts _ s_w_ac.2.1) (hts _ s_w_ac.2.2) hK.1 hP hD hS a b1 2 2 q0 q1 rfl rfl rfl g4 g5 g6 g7 g8 (fun _ _ => rfl) (Nat.le_trans (Nat.le_add_left 1 d') hdf) hro hd (fun H1 locs1 hP1 hD1 hS1 => ?_)
      rw [s_lv_cpy g7 g8, s_im_set_l (tt := tt) (α := α) (s_cpy_len g7 g8), s_img_set] at hP1 hD1
      exact go H1 locs1 hP1 hD1 hS1
  · -- min, max
    obtain ⟨xi, rfl, hlk⟩ := (s_res_static hr).2.1 _ rfl
    obtain rfl : len = 3 := (of_decide_eq_true hn2).symm
    obtain ⟨hw3, hlink⟩ := s_kNat hlk
    rw [if_neg hw0] at hlink
    have hro : ((rr.map (s_tr tt α)).map fun v => v.category).sum + 13 ≤ R.locals := by
      have h9 : (rr.map fun v => v.category).sum ≤ 8 := h1
      rw [s_cat_sum]
      omega
    have hmono := s_inv n _ _ _ _ _ _ _ _ h2 hls (s_lok_c.mpr ⟨s_vok_i, (s_lok_c.mp (s_lok_c.mp hst).2).2⟩) hM
    have hc9 : cells ≤ R.cells := by have := hmono.1; omega
    have hs9 : slots ≤ R.slots := by have := hmono.2.1; omega
    have go := hn p e R s m args below meth c Q own ini cc D cy tt E A μ MC MS o M' α0 n0 hF hC hL hK hT hA hMC hMS hret (d' + 1) (pc + 3) ls _ M α H locs cells slots lsR hdf hdl hn0 hα hls (s_lok_c.mpr ⟨s_vok_i, (s_lok_c.mp (s_lok_c.mp hst).2).2⟩) hM hP hD hS hl h2 hcl hsl
    rcases (show w = 1 ∨ w = 2 by omega) with rfl | rfl
    · exact va_mmin hx1 hb (hml.trans hl.1.symm) hown (hts _ hlink) (hts _ s_w_mm.1) (hts _ s_w_mm.2.2.1) (hts _ s_w_mm.2.2.2.1) (Nat.le_trans (Nat.le_add_left 1 d') hdf) hro hc9 hs9 hd go
    · exact va_mmax hx1 hb (hml.trans hl.1.symm) hown (hts _ hlink) (hts _ s_w_mm.2.1) (hts _ s_w_mm.2.2.1) (hts _ s_w_mm.2.2.2.2) (Nat.le_trans (Nat.le_add_left 1 d') hdf) hro hc9 hs9 hd go
  · have e := s_res_pl rfl hr
    subst e
    obtain rfl : len = 1 := (of_decide_eq_true hn2).symm
    exact W.widen (by omega) (by omega) (hret α H locs pc lsR _ hα hP hD hS (Or.inl ⟨x, rfl, rfl, h1⟩) hd)
  · have e := s_res_pl rfl hr
    subst e
    obtain rfl : len = 1 := (of_decide_eq_true hn2).symm
    exact W.widen (by omega) (by omega) (hret α H locs pc lsR _ hα hP hD hS (Or.inr (Or.inl ⟨x, rfl, rfl, h1⟩)) hd)
  · have e := s_res_pl rfl hr
    subst e
    obtain rfl : len = 1 := (of_decide_eq_true hn2).symm
    exact W.widen (by omega) (by omega) (hret α H locs pc lsR _ hα hP hD hS (Or.inr (Or.inr (Or.inl ⟨x, rfl, rfl, h1⟩))) hd)
  · have e := s_res_pl rfl hr
    subst e
    obtain rfl : len = 1 := (of_decide_eq_true hn2).symm
    exact W.widen (by omega) (by omega) (hret α H locs pc lsR _ hα hP hD hS (Or.inr (Or.inr (Or.inr (Or.inl ⟨rfl, rfl, h1⟩)))) hd)
  · have e := s_res_pl rfl hr
    subst e
    obtain rfl : len = 1 := (of_decide_eq_true hn2).symm
    exact W.widen (by omega) (by omega) (hret α H locs pc lsR _ hα hP hD hS (Or.inr (Or.inr (Or.inr (Or.inr ⟨rfl, rfl, h1⟩)))) hd)
  · obtain ⟨k1, k2, k3, k4⟩ := s_wr_ok h1 hst hM
    exact s_simW hF hK hP hD hS hd hr hn2 h1 (fun H1 locs1 hP1 hD1 hS1 => hn p e R s m args below meth c Q own ini cc D cy tt E A μ MC MS o M' α0 n0 hF hC hL hK hT hA hMC hMS hret d (pc + len) ls rr M2 α H1 locs1 cells slots lsR hdf hdl (by rw [k2]; exact hn0) hα (by rw [k2]; exact hls) (by rw [k2]; exact k1) (by rw [k2]; exact k4) hP1 hD1 hS1 hl h2 (by rw [k2]; exact hcl) (by rw [k3]; exact hsl))
  · obtain ⟨k1, k2, k3, k4⟩ := s_al_ok h1 hst hM
    have hls2 : s_sok M2.length ls := s_sok_le (by omega) hls
    obtain ⟨f1, f2, -, -⟩ := s_inv n _ _ _ _ _ _ _ _ h2 hls2 k1 k4
    exact s_simA hF hK hP hD hS hA hM hst hd hr hn2 h1 (by omega) (by omega) (fun q H1 hP1 hD1 hS1 => hn p e R s m args below meth c Q own ini cc D cy tt E A μ MC MS o M' α0 n0 hF hC hL hK hT hA hMC hMS hret d (pc + len) ls rr M2 (s_up α M.length q) H1 locs (cells + 1) (slots + s_newslots M M2) lsR hdf hdl (by omega) (fun i hi => (s_up_ne (Nat.lt_of_lt_of_le hi hn0)).trans (hα i hi)) hls2 k1 k4 hP1 hD1 hS1 (by rw [s_trl_eq (fun i hi => s_up_ne hi) hls]; exact hl) h2 (by omega) (by omega))
  · obtain ⟨k1, k2⟩ := s_pure_ok h1 hls hst hM
    exact s_simP hF hK hT hP hS hl hd hr hn2 h1 (fun lsR' hl' => hn p e R s m args below meth c Q own ini cc D cy tt E A μ MC MS o M' α0 n0 hF hC hL hK hT hA hMC hMS hret d P ls' st' M α H locs cells slots lsR' hdf hdl hn0 hα k1 k2 hM hP hD hS hl' h2 hcl hsl)
theorem s_main (l : Launch) : ∀ n, s_Fp l n
  | 0 => by
    intro p e R s m args below meth c Q own ini cc D cy tt E A μ MC MS o M' α0 n0 hF hC hL hK hT hA hMC hMS hret d pc ls st M α H locs cells slots lsR hdf hdl hn0 hα hls hst hM hP hD hS hl hx hcl hsl
    cases hx
  | n + 1 => s_Fp_succ (s_main l n)
theorem s_met (l : Launch) (n : Nat) : s_Mt l n := s_met_of (s_main l n)
end
section
/-! THE LAW in the small machine -/
def s_above : List Int32 := [-1, 0, 0, 2, 1, 3, 0, 6]
def s_own : List Int32 := [1, 10, 11, 2, 20, 0, 0, 0, 0, 30, 0, 0, 0, 41, 40, 0, 0, 0, 0, 50, 0, 0, 60, 61, 70, 0, 0, 0, 81, 80, 0, 0]
/-- the read-only rows: the two statics; the script of L ints xs; how many of them may be read -/
def s_rows (q L : Nat) (xs : Nat → Int32) : sE := fun j => bif Nat.beq j 0 then (8, fun i => s_above.getD i 0) else bif Nat.beq j 1 then (32, fun i => s_own.getD i 0) else bif Nat.beq j 2 then (L, xs) else (q, fun _ => 0)
def s_law : sMeth := (4, (some .boolean, (12, s_cd291)))
def s_chkR (lo n : Nat) : Bool := (List.range n).all (fun i => s_chk1 12 false code s_cd291 (lo + i))
theorem s_chkR_at {lo n pc : Nat} (h : s_chkR lo n = true) (h1 : lo ≤ pc) (h2 : pc < lo + n) : s_chk1 12 false code s_cd291 pc = true := by
  have h3 := List.all_eq_true.mp h (pc - lo) (List.mem_range.mpr (by omega))
  rwa [show lo + (pc - lo) = pc by omega] at h3
set_option maxRecDepth 100000 in
theorem s_law_r0 : s_chkR 0 64 = true := by decide +kernel
set_option maxRecDepth 100000 in
theorem s_law_r1 : s_chkR 64 64 = true := by decide +kernel
set_option maxRecDepth 100000 in
theorem s_law_r2 : s_chkR 128 64 = true := by decide +kernel
set_option maxRecDepth 100000 in
theorem s_law_r3 : s_chkR 192 64 = true := by decide +kernel
set_option maxRecDepth 100000 in
theorem s_law_r4 : s_chkR 256 64 = true := by decide +kernel
set_option maxRecDepth 100000 in
theorem s_law_r5 : s_chkR 320 64 = true := by decide +kernel
set_option maxRecDepth 100000 in
theorem s_law_r6 : s_chkR 384 64 = true := by decide +kernel
set_option maxRecDepth 100000 in
theorem s_law_r7 : s_chkR 448 64 = true := by decide +kernel
set_option maxRecDepth 100000 in
theorem s_law_r8 : s_chkR 512 64 = true := by decide +kernel
set_option maxRecDepth 100000 in
theorem s_law_r9 : s_chkR 576 64 = true := by decide +kernel
set_option maxRecDepth 100000 in
theorem s_law_r10 : s_chkR 640 64 = true := by decide +kernel
set_option maxRecDepth 100000 in
theorem s_law_r11 : s_chkR 704 64 = true := by decide +kernel
set_option maxRecDepth 100000 in
theorem s_law_r12 : s_chkR 768 64 = true := by decide +kernel
set_option maxRecDepth 100000 in
theorem s_law_r13 : s_chkR 832 64 = true := by decide +kernel
set_option maxRecDepth 100000 in
theorem s_law_r14 : s_chkR 896 64 = true := by decide +kernel
set_option maxRecDepth 100000 in
theorem s_law_r15 : s_chkR 960 64 = true := by decide +kernel
set_option maxRecDepth 100000 in
theorem s_law_r16 : s_chkR 1024 64 = true := by decide +kernel
set_option maxRecDepth 100000 in
theorem s_law_r17 : s_chkR 1088 64 = true := by decide +kernel
set_option maxRecDepth 100000 in
theorem s_law_r18 : s_chkR 1152 64 = true := by decide +kernel
theorem s_law_len : s_cd291.length = 76 := by decide +kernel
theorem s_law_cd : s_Cd 12 false code s_cd291 := by
  refine s_Cd_of (List.all_eq_true.mpr fun pc hpc => ?_)
  have h := List.mem_range.mp hpc
  rw [s_law_len] at h
  by_cases h0 : pc < 64
  · exact s_chkR_at s_law_r0 (by omega) (by omega)
  by_cases h1 : pc < 128
  · exact s_chkR_at s_law_r1 (by omega) (by omega)
  by_cases h2 : pc < 192
  · exact s_chkR_at s_law_r2 (by omega) (by omega)
  by_cases h3 : pc < 256
  · exact s_chkR_at s_law_r3 (by omega) (by omega)
  by_cases h4 : pc < 320
  · exact s_chkR_at s_law_r4 (by omega) (by omega)
  by_cases h5 : pc < 384
  · exact s_chkR_at s_law_r5 (by omega) (by omega)
  by_cases h6 : pc < 448
  · exact s_chkR_at s_law_r6 (by omega) (by omega)
  by_cases h7 : pc < 512
  · exact s_chkR_at s_law_r7 (by omega) (by omega)
  by_cases h8 : pc < 576
  · exact s_chkR_at s_law_r8 (by omega) (by omega)
  by_cases h9 : pc < 640
  · exact s_chkR_at s_law_r9 (by omega) (by omega)
  by_cases h10 : pc < 704
  · exact s_chkR_at s_law_r10 (by omega) (by omega)
  by_cases h11 : pc < 768
  · exact s_chkR_at s_law_r11 (by omega) (by omega)
  by_cases h12 : pc < 832
  · exact s_chkR_at s_law_r12 (by omega) (by omega)
  by_cases h13 : pc < 896
  · exact s_chkR_at s_law_r13 (by omega) (by omega)
  by_cases h14 : pc < 960
  · exact s_chkR_at s_law_r14 (by omega) (by omega)
  by_cases h15 : pc < 1024
  · exact s_chkR_at s_law_r15 (by omega) (by omega)
  by_cases h16 : pc < 1088
  · exact s_chkR_at s_law_r16 (by omega) (by omega)
  by_cases h17 : pc < 1152
  · exact s_chkR_at s_law_r17 (by omega) (by omega)
  by_cases h18 : pc < 1216
  · exact s_chkR_at s_law_r18 (by omega) (by omega)
  omega
set_option maxRecDepth 100000 in
theorem s_law_ln0 : s_lnC s_cd291 = true := by decide +kernel
theorem s_law_ld : s_Ld s_cd291 := s_Ld_of s_law_ln0
end
section
/-! RUNS: more fuel and more read-only rows change nothing; a run, step by step -/
def s_El (E E' : sE) : Prop := (E 3).1 ≤ (E' 3).1 ∧ ∀ j, j < (E 3).1 → E' j = E j
theorem s_El.rf {E : sE} : s_El E E := ⟨Nat.le_refl _, fun _ _ => rfl⟩
set_option maxHeartbeats 4000000 in
theorem s_pure_E {E E' : sE} (hE : s_El E E') {mx pc p : Nat} {i : Jvm.ClassFile.Instr} {ls : sL} {st : List Value} {M : sM} {x : Nat × (sL × List Value)} (h : s_pure E mx i pc p ls st M = some x) : s_pure E' mx i pc p ls st M = some x := by
  cases i
  case iaload =>
    replace h : s_ia E p ls st M = some x := h
    show s_ia E' p ls st M = some x
    unfold s_ia at h ⊢
    split at h
    · exact h
    · rename_i i j r
      cases hz : (!decide (i < 0) && (Nat.blt i.toNatClampNeg (E j).1 && Nat.blt j (E 3).1)) with
      | true =>
        rw [hz] at h
        simp only [Bool.and_eq_true] at hz
        have hj : j < (E 3).1 := Nat.le_of_ble_eq_true hz.2.2
        have e1 := hE.2 j hj
        have hj2 : Nat.blt j (E' 3).1 = true := Nat.ble_eq_true_of_le (Nat.lt_of_lt_of_le hj hE.1)
        try dsimp only
        rw [e1, hj2, hz.1, hz.2.1]
        exact h
      | false => rw [hz] at h; cases h
    · cases h
  case arraylength =>
    replace h : s_len E p ls st M = some x := h
    show s_len E' p ls st M = some x
    unfold s_len at h ⊢
    split at h
    · exact h
    · rename_i j r
      cases hz : Nat.blt j (E 3).1 with
      | true =>
        rw [hz] at h
        have hj : j < (E 3).1 := Nat.le_of_ble_eq_true hz
        have e1 := hE.2 j hj
        have hj2 : Nat.blt j (E' 3).1 = true := Nat.ble_eq_true_of_le (Nat.lt_of_lt_of_le hj hE.1)
        try dsimp only
        rw [e1, hj2]
        exact h
      | false => rw [hz] at h; cases h
    · cases h
  all_goals exact h
def s_le (f g : Nat → sMeth → Nat → sL → List Value → sM → sR) : Prop := ∀ d μ pc ls st M r, f d μ pc ls st M = some r → g d μ pc ls st M = some r
theorem s_call_mono {f g : Nat → sMeth → Nat → sL → List Value → sM → sR} (hl : s_le f g) {d : Nat} {μ ν : sMeth} {p : Nat} {ls : sL} {as r : List Value} {M : sM} {x : Option Value × sM} (h : s_call f d μ ν p ls as r M = some x) : s_call g d μ ν p ls as r M = some x := by
  obtain ⟨o, M'⟩ := x
  obtain ⟨d', v, M2, rfl, h1, h2, h3⟩ := s_call_sp h
  unfold s_call
  dsimp only
  rw [h1, cond_true, hl _ _ _ _ _ _ _ h2]
  cases v with
  | none => exact hl _ _ _ _ _ _ _ h3
  | some v => exact hl _ _ _ _ _ _ _ h3
set_option maxHeartbeats 8000000 in
theorem s_step_mono {prog : Nat → Option sMeth} {fty : Nat → Nat → FieldType} {ft : List (Nat × (Nat → FieldType))} {E E' : sE} (hE : s_El E E') {f g : Nat → sMeth → Nat → sL → List Value → sM → sR} (hl : s_le f g) : s_le (s_step prog fty ft E f) (s_step prog fty ft E' g) := by
  intro d μ pc ls st M r h
  unfold s_step at h ⊢
  cases hf : s_fetch μ.2.2.2 pc with
  | none => rw [hf] at h; cases h
  | some q =>
    rw [hf] at h
    obtain ⟨i, len⟩ := q
    dsimp only at h ⊢
    cases i
    case invokevirtual w =>
      dsimp only at h ⊢
      cases hs : s_split (w % 8) [] st with
      | none => rw [hs] at h; cases h
      | some t =>
        rw [hs] at h
        obtain ⟨as, r2⟩ := t
        cases r2 with
        | nil => cases h
        | cons v r2 =>
          cases v
          case ref a =>
            dsimp only at h ⊢
            cases hp : prog (w / 8) with
            | none => rw [hp] at h; cases h
            | some ν =>
              rw [hp] at h
              dsimp only at h ⊢
              cases hz : Nat.beq (s_kd M a) ν.2.2.1 with
              | true => rw [hz, cond_true] at h; exact s_call_mono hl h
              | false => rw [hz] at h; cases h
          all_goals cases h
    case invokespecial w =>
      dsimp only at h ⊢
      cases hw : Nat.beq w 0 with
      | true =>
        rw [hw, cond_true] at h
        rw [cond_true]
        split at h
        · rename_i d' a r2
          try dsimp only
          cases hz : Nat.ble (r2.map fun v => v.category).sum 8 with
          | true => rw [hz, cond_true] at h; exact hl _ _ _ _ _ _ _ h
          | false => rw [hz] at h; cases h
        · cases h
      | false =>
        rw [hw, cond_false] at h
        rw [cond_false]
        cases hs : s_split (w % 8) [] st with
        | none => rw [hs] at h; cases h
        | some t =>
          rw [hs] at h
          obtain ⟨as, r2⟩ := t
          cases r2 with
          | nil => cases h
          | cons v r2 =>
            cases v
            case ref a =>
              dsimp only at h ⊢
              cases hp : prog (w / 8) with
              | none => rw [hp] at h; cases h
              | some ν => rw [hp] at h; exact s_call_mono hl h
            all_goals cases h
    case invokestatic w =>
      dsimp only at h ⊢
      cases hs : s_split (w % 8) [] st with
      | none => rw [hs] at h; cases h
      | some t =>
        rw [hs] at h
        dsimp only at h ⊢
        cases hp : prog (w / 8) with
        | none => rw [hp] at h; cases h
        | some ν => rw [hp] at h; exact s_call_mono hl h
    case invokeinterface w k =>
      dsimp only at h ⊢
      cases hs : s_split (w % 8) [] st with
      | none => rw [hs] at h; cases h
      | some t =>
        rw [hs] at h
        dsimp only at h ⊢
        cases hp : prog (w / 8) with
        | none => rw [hp] at h; cases h
        | some ν => rw [hp] at h; exact s_call_mono hl h
    case invokedynamic w =>
      dsimp only at h ⊢
      cases d with
      | zero => cases h
      | succ d =>
        dsimp only at h ⊢
        cases hw : Nat.beq w 0 with
        | true =>
          rw [hw, cond_true] at h
          rw [cond_true]
          cases hs : s_ac st M with
          | none => rw [hs] at h; cases h
          | some t => rw [hs] at h; exact hl _ _ _ _ _ _ _ h
        | false =>
          rw [hw, cond_false] at h
          rw [cond_false]
          split at h
          · rename_i y x r2
            try dsimp only
            cases hz : Nat.ble (r2.map fun v => v.category).sum 8 with
            | true => rw [hz, cond_true] at h; exact hl _ _ _ _ _ _ _ h
            | false => rw [hz] at h; cases h
          · cases h
    case ireturn => exact h
    case lreturn => exact h
    case areturn => exact h
    case return_ => exact h
    all_goals first
      | (dsimp only at h ⊢
         cases hp : s_pure E μ.1 _ pc (pc + len) ls st M with
         | none => rw [hp] at h; cases h
         | some t =>
           rw [s_pure_E hE hp]
           rw [hp] at h
           exact hl _ _ _ _ _ _ _ h)
      | (dsimp only at h ⊢
         cases hp : s_wr fty _ st M with
         | none => rw [hp] at h; cases h
         | some t =>
           rw [hp] at h
           exact hl _ _ _ _ _ _ _ h)
      | (dsimp only at h ⊢
         cases hp : s_al ft _ st M with
         | none => rw [hp] at h; cases h
         | some t =>
           rw [hp] at h
           exact hl _ _ _ _ _ _ _ h)
theorem s_x_mono {prog : Nat → Option sMeth} {fty : Nat → Nat → FieldType} {ft : List (Nat × (Nat → FieldType))} {E E' : sE} (hE : s_El E E') : ∀ n n', n ≤ n' → s_le (s_x prog fty ft E n) (s_x prog fty ft E' n')
  | 0, _, _ => fun d μ pc ls st M r h => by cases h
  | n + 1, 0, h => absurd h (Nat.not_succ_le_zero n)
  | n + 1, k + 1, h => s_step_mono hE (s_x_mono hE n k (Nat.le_of_succ_le_succ h))
/-- from here the run comes to an end that Q describes -/
def s_Ev (E : sE) (d : Nat) (μ : sMeth) (pc : Nat) (ls : sL) (st : List Value) (M : sM) (Q : Option Value → sM → Prop) : Prop := ∃ n o M', s_x s_prog s_fty s_ft E n d μ pc ls st M = some (o, M') ∧ Q o M'
/-- a run that was worked out -/
theorem s_ev_run {E0 E : sE} (hE : s_El E0 E) {n d : Nat} {μ : sMeth} {pc : Nat} {ls : sL} {st : List Value} {M M' : sM} {o : Option Value} {Q : Option Value → sM → Prop} (h : s_x s_prog s_fty s_ft E0 n d μ pc ls st M = some (o, M')) (hQ : Q o M') : s_Ev E d μ pc ls st M Q := ⟨n, o, M', s_x_mono hE n n (Nat.le_refl n) _ _ _ _ _ _ _ h, hQ⟩
/-- more depth changes nothing: not needed where the depth is one number throughout -/
theorem s_ev_mono {E : sE} {d : Nat} {μ : sMeth} {pc : Nat} {ls : sL} {st : List Value} {M : sM} {Q Q' : Option Value → sM → Prop} (h : s_Ev E d μ pc ls st M Q) (hQ : ∀ o M', Q o M' → Q' o M') : s_Ev E d μ pc ls st M Q' := by
  obtain ⟨n, o, M', h1, h2⟩ := h
  exact ⟨n, o, M', h1, hQ _ _ h2⟩
theorem s_step_pure {prog : Nat → Option sMeth} {fty : Nat → Nat → FieldType} {ft : List (Nat × (Nat → FieldType))} {E : sE} {rec : Nat → sMeth → Nat → sL → List Value → sM → sR} {d : Nat} {μ : sMeth} {pc len P : Nat} {ls ls' : sL} {st st' : List Value} {M : sM} {i : Jvm.ClassFile.Instr} (hf : s_fetch μ.2.2.2 pc = some (i, len)) (hp : s_pure E μ.1 i pc (pc + len) ls st M = some (P, ls', st')) : s_step prog fty ft E rec d μ pc ls st M = rec d μ P ls' st' M := by
  unfold s_step
  rw [hf]
  dsimp only
  cases i
  all_goals first
    | exact nomatch (show none = some _ from hp)
    | (dsimp only
       rw [hp])
theorem s_step_wr {prog : Nat → Option sMeth} {fty : Nat → Nat → FieldType} {ft : List (Nat × (Nat → FieldType))} {E : sE} {rec : Nat → sMeth → Nat → sL → List Value → sM → sR} {d : Nat} {μ : sMeth} {pc len : Nat} {ls : sL} {st st' : List Value} {M M' : sM} {i : Jvm.ClassFile.Instr} (hf : s_fetch μ.2.2.2 pc = some (i, len)) (hp : s_wr fty i st M = some (st', M')) : s_step prog fty ft E rec d μ pc ls st M = rec d μ (pc + len) ls st' M' := by
  unfold s_step
  rw [hf]
  dsimp only
  cases i
  all_goals first
    | exact nomatch (show none = some _ from hp)
    | (dsimp only
       rw [hp])
/-- k steps that call nothing, make nothing, don't return -/
def s_bk (E : sE) (μ : sMeth) : Nat → Nat → sL → List Value → sM → Option (Nat × (sL × (List Value × sM)))
  | 0, pc, ls, st, M => some (pc, ls, st, M)
  | k + 1, pc, ls, st, M => match s_fetch μ.2.2.2 pc with
    | some i => (match s_pure E μ.1 i.1 pc (pc + i.2) ls st M with
      | some (P, ls', st') => s_bk E μ k P ls' st' M
      | none => (match s_wr s_fty i.1 st M with
        | some (st', M') => s_bk E μ k (pc + i.2) ls st' M'
        | none => none))
    | none => none
theorem s_bk_x {E : sE} {μ : sMeth} {d n : Nat} : ∀ (k pc : Nat) (ls : sL) (st : List Value) (M : sM) (P : Nat) (ls' : sL) (st' : List Value) (M' : sM), s_bk E μ k pc ls st M = some (P, ls', st', M') → s_x s_prog s_fty s_ft E (n + k) d μ pc ls st M = s_x s_prog s_fty s_ft E n d μ P ls' st' M'
  | 0, pc, ls, st, M, P, ls', st', M', h => by cases h; rfl
  | k + 1, pc, ls, st, M, P, ls', st', M', h => by
    unfold s_bk at h
    split at h
    · rename_i i hf
      obtain ⟨i, len⟩ := i
      dsimp only at h
      split at h
      · rename_i P1 l1 t1 hp
        show s_step s_prog s_fty s_ft E (s_x s_prog s_fty s_ft E (n + k)) d μ pc ls st M = _
        rw [s_step_pure hf hp]
        exact s_bk_x k _ _ _ _ _ _ _ _ h
      · split at h
        · rename_i t1 M1 hw
          show s_step s_prog s_fty s_ft E (s_x s_prog s_fty s_ft E (n + k)) d μ pc ls st M = _
          rw [s_step_wr hf hw]
          exact s_bk_x k _ _ _ _ _ _ _ _ h
        · cases h
    · cases h
theorem s_ev_bk {E : sE} {d : Nat} {μ : sMeth} {Q : Option Value → sM → Prop} (k : Nat) {pc : Nat} {ls : sL} {st : List Value} {M : sM} {P : Nat} {ls' : sL} {st' : List Value} {M' : sM} (h : s_bk E μ k pc ls st M = some (P, ls', st', M')) (kk : s_Ev E d μ P ls' st' M' Q) : s_Ev E d μ pc ls st M Q := by
  obtain ⟨n, o, M2, h1, h2⟩ := kk
  exact ⟨n + k, o, M2, by rw [s_bk_x k _ _ _ _ _ _ _ _ h]; exact h1, h2⟩
/-- a call: the callee's run, then the rest -/
theorem s_ev_call {E : sE} {d : Nat} {μ ν : sMeth} {Q : Option Value → sM → Prop} {pc P : Nat} {ls : sL} {st as r : List Value} {M : sM} (hs : ∀ rec, s_step s_prog s_fty s_ft E rec (d + 1) μ pc ls st M = s_call rec (d + 1) μ ν P ls as r M) (hr : s_room ν.1 as r = true) (kk : s_Ev E d ν 0 (lv_args 0 as) [] M (fun v M2 => s_Ev E (d + 1) μ P ls (v.toList ++ r) M2 Q)) : s_Ev E (d + 1) μ pc ls st M Q := by
  obtain ⟨n1, v, M2, h1, n2, o, M3, h2, h3⟩ := kk
  refine ⟨(n1 + n2) + 1, o, M3, ?_, h3⟩
  show s_step s_prog s_fty s_ft E (s_x s_prog s_fty s_ft E (n1 + n2)) (d + 1) μ pc ls st M = _
  rw [hs]
  unfold s_call
  dsimp only
  rw [hr, cond_true, s_x_mono s_El.rf n1 (n1 + n2) (by omega) _ _ _ _ _ _ _ h1]
  cases v with
  | none => exact s_x_mono s_El.rf n2 (n1 + n2) (by omega) _ _ _ _ _ _ _ h2
  | some v => exact s_x_mono s_El.rf n2 (n1 + n2) (by omega) _ _ _ _ _ _ _ h2
theorem s_ev_one {E : sE} {d : Nat} {μ : sMeth} {Q : Option Value → sM → Prop} {pc P : Nat} {ls ls' : sL} {st st' : List Value} {M M' : sM} (hs : ∀ rec, s_step s_prog s_fty s_ft E rec d μ pc ls st M = rec d μ P ls' st' M') (kk : s_Ev E d μ P ls' st' M' Q) : s_Ev E d μ pc ls st M Q := by
  obtain ⟨n, o, M2, h1, h2⟩ := kk
  exact ⟨n + 1, o, M2, (hs _).trans h1, h2⟩
theorem s_ev_ret {E : sE} {d : Nat} {μ : sMeth} {Q : Option Value → sM → Prop} {pc : Nat} {ls : sL} {st : List Value} {M M' : sM} {o : Option Value} (hs : ∀ rec, s_step s_prog s_fty s_ft E rec d μ pc ls st M = some (o, M')) (hq : Q o M') : s_Ev E d μ pc ls st M Q := ⟨1, o, M', hs _, hq⟩
/-- a branch -/
theorem s_ev_if1 {E : sE} {d : Nat} {μ : sMeth} {Q : Option Value → sM → Prop} {pc T : Nat} {ls : sL} {st : List Value} {M : sM} {cnd : Jvm.ClassFile.Cond} {off : Int} {x : Int32} (hf : s_fetch μ.2.2.2 pc = some (.ifCond cnd off, 3)) (ht : s_tgt pc off = some T) (k1 : s_c1 cnd x = true → s_Ev E d μ T ls st M Q) (k2 : s_c1 cnd x = false → s_Ev E d μ (pc + 3) ls st M Q) : s_Ev E d μ pc ls (.int x :: st) M Q := by
  cases hc : s_c1 cnd x with
  | true => exact s_ev_one (fun rec => s_step_pure hf (show s_jump (s_br (s_c1 cnd x) pc off) ls st = some (T, ls, st) by rw [hc]; show s_jump (s_tgt pc off) ls st = _; rw [ht]; rfl)) (k1 hc)
  | false => exact s_ev_one (fun rec => s_step_pure hf (show s_jump (s_br (s_c1 cnd x) pc off) ls st = some (pc + 3, ls, st) by rw [hc]; rfl)) (k2 hc)
theorem s_ev_if2 {E : sE} {d : Nat} {μ : sMeth} {Q : Option Value → sM → Prop} {pc T : Nat} {ls : sL} {st : List Value} {M : sM} {cnd : Jvm.ClassFile.Cond} {off : Int} {x y : Int32} (hf : s_fetch μ.2.2.2 pc = some (.if_icmp cnd off, 3)) (ht : s_tgt pc off = some T) (k1 : s_c2 cnd x y = true → s_Ev E d μ T ls st M Q) (k2 : s_c2 cnd x y = false → s_Ev E d μ (pc + 3) ls st M Q) : s_Ev E d μ pc ls (.int y :: .int x :: st) M Q := by
  cases hc : s_c2 cnd x y with
  | true => exact s_ev_one (fun rec => s_step_pure hf (show s_jump (s_br (s_c2 cnd x y) pc off) ls st = some (T, ls, st) by rw [hc]; show s_jump (s_tgt pc off) ls st = _; rw [ht]; rfl)) (k1 hc)
  | false => exact s_ev_one (fun rec => s_step_pure hf (show s_jump (s_br (s_c2 cnd x y) pc off) ls st = some (pc + 3, ls, st) by rw [hc]; rfl)) (k2 hc)
def s_keep (M M' : sM) : Prop := M'.length = M.length ∧ s_slots M' = s_slots M
theorem s_keep.rf {M : sM} : s_keep M M := ⟨rfl, rfl⟩
theorem s_keep.tr {M M2 M' : sM} (h1 : s_keep M M2) (h2 : s_keep M2 M') : s_keep M M' := ⟨h2.1.trans h1.1, h2.2.trans h1.2⟩
theorem s_ps_keep {M M' : sM} {a : Nat} {i : Int32} {v : Value} {ok : Nat → Bool} {r r' : List Value} (h : s_ps M a i v ok r = some (r', M')) : s_keep M M' := by
  obtain ⟨k, vs, h1, -, -, -, -, rfl, rfl⟩ := s_ps_sp h
  exact ⟨List.length_set, s_slots_set h1 List.length_set⟩
theorem s_pf_keep {k : Nat} {f : Nat → Nat → FieldType} {M M' : sM} {st r' : List Value} (h : s_pf f k st M = some (r', M')) : s_keep M M' := by
  unfold s_pf at h
  split at h
  · rename_i v a r
    split at h
    · rename_i q hq
      cases hz : (Nat.beq q.1 (k / 64) && (s_fit (f (k / 64) (k % 64)) v && Nat.blt (k % 64) q.2.length)) with
      | true =>
        rw [hz] at h
        cases h
        exact ⟨List.length_set, s_slots_set hq List.length_set⟩
      | false => rw [hz] at h; cases h
    · cases h
  · cases h
theorem s_wr_keep {f : Nat → Nat → FieldType} {i : Jvm.ClassFile.Instr} {M M' : sM} {st r' : List Value} (h : s_wr f i st M = some (r', M')) : s_keep M M' := by
  cases i
  case putfield k => exact s_pf_keep (show s_pf f k st M = _ from h)
  case putstatic k => exact s_pf_keep (show s_pf f k st M = _ from h)
  case bastore =>
    unfold s_wr at h
    dsimp only at h
    split at h
    · rename_i x j a r
      cases hz : Nat.beq (s_kd M a) 12 with
      | true => rw [hz, cond_true] at h; exact s_ps_keep h
      | false => rw [hz, cond_false] at h; exact s_ps_keep h
    · cases h
  case iastore => (unfold s_wr at h; dsimp only at h; split at h <;> first | exact s_ps_keep h | cases h)
  case sastore => (unfold s_wr at h; dsimp only at h; split at h <;> first | exact s_ps_keep h | cases h)
  case lastore => (unfold s_wr at h; dsimp only at h; split at h <;> first | exact s_ps_keep h | cases h)
  case aastore => (unfold s_wr at h; dsimp only at h; split at h <;> first | exact s_ps_keep h | cases h)
  all_goals exact nomatch (show none = some _ from h)
theorem s_bk_keep {E : sE} {μ : sMeth} : ∀ (k pc : Nat) (ls : sL) (st : List Value) (M : sM) (P : Nat) (ls' : sL) (st' : List Value) (M' : sM), s_bk E μ k pc ls st M = some (P, ls', st', M') → s_keep M M'
  | 0, pc, ls, st, M, P, ls', st', M', h => by cases h; exact s_keep.rf
  | k + 1, pc, ls, st, M, P, ls', st', M', h => by
    unfold s_bk at h
    split at h
    · split at h
      · exact s_bk_keep k _ _ _ _ _ _ _ _ h
      · split at h
        · rename_i hw
          exact (s_wr_keep hw).tr (s_bk_keep k _ _ _ _ _ _ _ _ h)
        · cases h
    · cases h
/-- the same, and the cells keep their number and sizes -/
def s_Ek (E : sE) (d : Nat) (μ : sMeth) (pc : Nat) (ls : sL) (st : List Value) (M : sM) (Q : Option Value → sM → Prop) : Prop := s_Ev E d μ pc ls st M (fun o M' => s_keep M M' ∧ Q o M')
section EK
variable {E : sE} {d : Nat} {μ ν : sMeth} {Q : Option Value → sM → Prop} {pc P T : Nat} {ls ls' : sL} {st st' as r : List Value} {M M' : sM}
theorem s_ek_bk (k : Nat) (h : s_bk E μ k pc ls st M = some (P, ls', st', M')) (kk : s_Ek E d μ P ls' st' M' Q) : s_Ek E d μ pc ls st M Q :=
  s_ev_bk k h (s_ev_mono kk (fun _ _ q => ⟨(s_bk_keep k _ _ _ _ _ _ _ _ h).tr q.1, q.2⟩))
theorem s_ek_call (hs : ∀ rec, s_step s_prog s_fty s_ft E rec (d + 1) μ pc ls st M = s_call rec (d + 1) μ ν P ls as r M) (hr : s_room ν.1 as r = true) (kk : s_Ek E d ν 0 (lv_args 0 as) [] M (fun v M2 => s_Ek E (d + 1) μ P ls (v.toList ++ r) M2 Q)) : s_Ek E (d + 1) μ pc ls st M Q :=
  s_ev_call hs hr (s_ev_mono kk (fun _ _ q => s_ev_mono q.2 (fun _ _ q2 => ⟨q.1.tr q2.1, q2.2⟩)))
theorem s_ek_ret {o : Option Value} (hs : ∀ rec, s_step s_prog s_fty s_ft E rec d μ pc ls st M = some (o, M)) (hq : Q o M) : s_Ek E d μ pc ls st M Q := s_ev_ret hs ⟨s_keep.rf, hq⟩
def s_p1 (c : Jvm.ClassFile.Cond) (x : Int32) : Prop := match c with
  | .eq => x.toInt = 0
  | .ne => ¬ x.toInt = 0
  | .lt => x.toInt < 0
  | .ge => 0 ≤ x.toInt
  | .gt => 0 < x.toInt
  | .le => x.toInt ≤ 0
def s_p2 (c : Jvm.ClassFile.Cond) (x y : Int32) : Prop := match c with
  | .eq => x.toInt = y.toInt
  | .ne => ¬ x.toInt = y.toInt
  | .lt => x.toInt < y.toInt
  | .ge => y.toInt ≤ x.toInt
  | .gt => y.toInt < x.toInt
  | .le => x.toInt ≤ y.toInt
theorem s_c1_iff {c : Jvm.ClassFile.Cond} {x : Int32} : s_c1 c x = true ↔ s_p1 c x := by
  have h0 : (0 : Int32).toInt = 0 := rfl
  cases c <;> simp only [s_c1, s_p1, decide_eq_true_eq, Bool.not_eq_true', decide_eq_false_iff_not, Int32.lt_iff_toInt_lt, Int32.le_iff_toInt_le, ← Int32.toInt_inj, h0]
theorem s_c2_iff {c : Jvm.ClassFile.Cond} {x y : Int32} : s_c2 c x y = true ↔ s_p2 c x y := by
  cases c <;> simp only [s_c2, s_p2, decide_eq_true_eq, Bool.not_eq_true', decide_eq_false_iff_not, Int32.lt_iff_toInt_lt, Int32.le_iff_toInt_le, ← Int32.toInt_inj]
theorem s_ek_if1 {cnd : Jvm.ClassFile.Cond} {off : Int} {x : Int32} (hf : s_fetch μ.2.2.2 pc = some (.ifCond cnd off, 3)) (ht : s_tgt pc off = some T) (k1 : s_p1 cnd x → s_Ek E d μ T ls st M Q) (k2 : ¬ s_p1 cnd x → s_Ek E d μ (pc + 3) ls st M Q) : s_Ek E d μ pc ls (.int x :: st) M Q :=
  s_ev_if1 hf ht (fun h => k1 (s_c1_iff.mp h)) (fun h => k2 (fun q => by rw [s_c1_iff.mpr q] at h; cases h))
theorem s_ek_if2 {cnd : Jvm.ClassFile.Cond} {off : Int} {x y : Int32} (hf : s_fetch μ.2.2.2 pc = some (.if_icmp cnd off, 3)) (ht : s_tgt pc off = some T) (k1 : s_p2 cnd x y → s_Ek E d μ T ls st M Q) (k2 : ¬ s_p2 cnd x y → s_Ek E d μ (pc + 3) ls st M Q) : s_Ek E d μ pc ls (.int y :: .int x :: st) M Q :=
  s_ev_if2 hf ht (fun h => k1 (s_c2_iff.mp h)) (fun h => k2 (fun q => by rw [s_c2_iff.mpr q] at h; cases h))
theorem s_ek_tso {dflt lo hi : Int} {os : Array Int} {len : Nat} {x : Int32} (hf : s_fetch μ.2.2.2 pc = some (.tableswitch dflt lo hi os, len)) (ht : s_tgt pc dflt = some T) (hx : x.toInt < lo ∨ hi < x.toInt) (k : s_Ek E d μ T ls st M Q) : s_Ek E d μ pc ls (.int x :: st) M Q := by
  have hb : (decide (x.toInt < lo) || decide (hi < x.toInt)) = true := by simpa using hx
  exact s_ev_one (fun rec => s_step_pure hf (show s_tsw dflt lo hi os pc ls (.int x :: st) = some (T, ls, st) by unfold s_tsw; dsimp only; rw [hb, cond_true, ht]; rfl)) k
def s_keepb (M M' : sM) : Bool := Nat.beq M'.length M.length && Nat.beq (s_slots M') (s_slots M)
theorem s_keepb_ok {M M' : sM} (h : s_keepb M M' = true) : s_keep M M' := by
  unfold s_keepb at h
  rw [Bool.and_eq_true] at h
  exact ⟨Nat.eq_of_beq_eq_true h.1, Nat.eq_of_beq_eq_true h.2⟩
/-- a run worked out: its answer and its cells -/
def s_out (x : sR) (o : Option Value) (M M' : sM) : Bool := match x with
  | some q => decide (q.1 = o) && (decide (q.2 = M') && s_keepb M M')
  | none => false
theorem s_ek_run {E0 : sE} (hE : s_El E0 E) {n : Nat} {o : Option Value} (h : s_out (s_x s_prog s_fty s_ft E0 n d μ pc ls st M) o M M' = true) (hQ : Q o M') : s_Ek E d μ pc ls st M Q := by
  unfold s_out at h
  split at h
  · rename_i q hq
    simp only [Bool.and_eq_true, decide_eq_true_eq] at h
    obtain ⟨o1, M1⟩ := q
    obtain ⟨h1, h2, h3⟩ := h
    dsimp only at h1 h2
    subst h1; subst h2
    exact s_ev_run hE hq ⟨s_keepb_ok h3, hQ⟩
  · cases h
end EK
/-- a cell's place, written -/
def s_w (M : sM) (a i : Nat) (v : Value) : sM := match M[a]? with
  | some c => M.set a (c.1, c.2.set i v)
  | none => M
theorem s_El_rows {L : Nat} {xs : Nat → Int32} : s_El (s_rows 2 0 (fun _ => 0)) (s_rows 3 L xs) := ⟨show 2 ≤ 3 by decide, fun j hj => by
  have hj : j < 2 := hj
  rcases (show j = 0 ∨ j = 1 by omega) with rfl | rfl <;> rfl⟩
end
section
/-! the cells behind both constructors; small ranges -/
def s_vde (a : Int32) : Int32 := ((((a / 100) * 25) + (((a / 10) - (a / 10) / 10 * 10) * 5)) + (a - a / 10 * 10))
set_option maxRecDepth 100000 in
theorem s_vd0 : (List.range 445).all (fun j => decide (0 ≤ (s_vde (Int32.ofNat j)).toInt)) = true := by decide +kernel
theorem s_vd {a : Int32} (h1 : 0 ≤ a.toInt) (h2 : a.toInt ≤ 444) : ¬ (s_vde a).toInt < 0 := by
  have h3 := List.all_eq_true.mp s_vd0 a.toInt.toNat (List.mem_range.mpr (by omega))
  have h4 := of_decide_eq_true h3
  have e : Int32.ofNat a.toInt.toNat = a := by
    apply Int32.toInt_inj.mp
    rw [Int32.toInt_ofNat_small (by omega)]
    omega
  rw [e] at h4
  omega
def s_M0 : sM := [(10, [.ref 1, .int 0, .ref 2, .ref 3, .ref 8, .ref 73, .ref 78, .ref 132, .ref 135, .ref 136, .ref 138, .int (-1)]),
  (13, List.replicate 60 (.int 0)),
  (13, [.int 0, .int 0, .int 0]),
  (5, [.ref 4, .ref 7, .int 0, .int 0]),
  (7, [.ref 5, .ref 6, .int 0]),
  (13, List.replicate 61 (.int 0)),
  (13, List.replicate 61 (.int 0)),
  (13, List.replicate 60 (.int 0)),
  (3, [.ref 9, .int 0, .int 0, .int 99, .int 0, .ref 14, .ref 15, .ref 20, .ref 21, .ref 22]),
  (9, [.ref 10, .ref 11, .ref 12, .ref 13]),
  (13, [.int (-1), .int (-1), .int (-1)]),
  (13, [.int 0, .int 0, .int 0]),
  (13, [.int 0, .int 0, .int 0]),
  (13, [.int 0, .int 0, .int 0]),
  (18, [.ref 23, .ref 28, .ref 33, .ref 38, .ref 43, .ref 48, .ref 53, .ref 58, .ref 63, .ref 68]),
  (4, [.int 10, .int 0, .int 0, .int (-1), .ref 16, .ref 19, .int 0, .int (-1), .int 0, .int 0, .int 0, .int (-1)]),
  (7, [.ref 17, .ref 18, .int 0]),
  (13, List.replicate 61 (.int 0)),
  (13, List.replicate 61 (.int 0)),
  (0, [.long 0, .long 0]),
  (13, List.replicate 10 (.int 0)),
  (13, List.replicate 6 (.int 0)),
  (13, List.replicate 125 (.int 0)),
  (4, [.int 0, .int 0, .int 0, .int (-1), .ref 24, .ref 27, .int 0, .int (-1), .int 0, .int 0, .int 0, .int (-1)]),
  (7, [.ref 25, .ref 26, .int 0]),
  (13, List.replicate 61 (.int 0)),
  (13, List.replicate 61 (.int 0)),
  (0, [.long 0, .long 0]),
  (4, [.int 1, .int 0, .int 0, .int (-1), .ref 29, .ref 32, .int 0, .int (-1), .int 0, .int 0, .int 0, .int (-1)]),
  (7, [.ref 30, .ref 31, .int 0]),
  (13, List.replicate 61 (.int 0)),
  (13, List.replicate 61 (.int 0)),
  (0, [.long 0, .long 0]),
  (4, [.int 2, .int 0, .int 0, .int (-1), .ref 34, .ref 37, .int 0, .int (-1), .int 0, .int 0, .int 0, .int (-1)]),
  (7, [.ref 35, .ref 36, .int 0]),
  (13, List.replicate 61 (.int 0)),
  (13, List.replicate 61 (.int 0)),
  (0, [.long 0, .long 0]),
  (4, [.int 3, .int 0, .int 0, .int (-1), .ref 39, .ref 42, .int 0, .int (-1), .int 0, .int 0, .int 0, .int (-1)]),
  (7, [.ref 40, .ref 41, .int 0]),
  (13, List.replicate 61 (.int 0)),
  (13, List.replicate 61 (.int 0)),
  (0, [.long 0, .long 0]),
  (4, [.int 4, .int 0, .int 0, .int (-1), .ref 44, .ref 47, .int 0, .int (-1), .int 0, .int 0, .int 0, .int (-1)]),
  (7, [.ref 45, .ref 46, .int 0]),
  (13, List.replicate 61 (.int 0)),
  (13, List.replicate 61 (.int 0)),
  (0, [.long 0, .long 0]),
  (4, [.int 5, .int 0, .int 0, .int (-1), .ref 49, .ref 52, .int 0, .int (-1), .int 0, .int 0, .int 0, .int (-1)]),
  (7, [.ref 50, .ref 51, .int 0]),
  (13, List.replicate 61 (.int 0)),
  (13, List.replicate 61 (.int 0)),
  (0, [.long 0, .long 0]),
  (4, [.int 6, .int 0, .int 0, .int (-1), .ref 54, .ref 57, .int 0, .int (-1), .int 0, .int 0, .int 0, .int (-1)]),
  (7, [.ref 55, .ref 56, .int 0]),
  (13, List.replicate 61 (.int 0)),
  (13, List.replicate 61 (.int 0)),
  (0, [.long 0, .long 0]),
  (4, [.int 7, .int 0, .int 0, .int (-1), .ref 59, .ref 62, .int 0, .int (-1), .int 0, .int 0, .int 0, .int (-1)]),
  (7, [.ref 60, .ref 61, .int 0]),
  (13, List.replicate 61 (.int 0)),
  (13, List.replicate 61 (.int 0)),
  (0, [.long 0, .long 0]),
  (4, [.int 8, .int 0, .int 0, .int (-1), .ref 64, .ref 67, .int 0, .int (-1), .int 0, .int 0, .int 0, .int (-1)]),
  (7, [.ref 65, .ref 66, .int 0]),
  (13, List.replicate 61 (.int 0)),
  (13, List.replicate 61 (.int 0)),
  (0, [.long 0, .long 0]),
  (4, [.int 9, .int 0, .int 0, .int (-1), .ref 69, .ref 72, .int 0, .int (-1), .int 0, .int 0, .int 0, .int (-1)]),
  (7, [.ref 70, .ref 71, .int 0]),
  (13, List.replicate 61 (.int 0)),
  (13, List.replicate 61 (.int 0)),
  (0, [.long 0, .long 0]),
  (1, [.int 0, .int 0, .ref 74, .ref 75, .ref 76, .ref 77]),
  (13, List.replicate 40 (.int 0)),
  (13, List.replicate 40 (.int 0)),
  (13, List.replicate 40 (.int 0)),
  (13, List.replicate 40 (.int 0)),
  (8, [.ref 79, .ref 84, .ref 85, .ref 86, .int (-1), .int (-1)]),
  (4, [.int 10, .int 0, .int 0, .int (-1), .ref 80, .ref 83, .int 0, .int (-1), .int 0, .int 0, .int 0, .int (-1)]),
  (7, [.ref 81, .ref 82, .int 0]),
  (13, List.replicate 61 (.int 0)),
  (13, List.replicate 61 (.int 0)),
  (0, [.long 0, .long 0]),
  (17, [.ref 87, .ref 88, .ref 89, .ref 90, .ref 91, .ref 92, .ref 93, .ref 94, .ref 95, .ref 96, .ref 97, .ref 98, .ref 99, .ref 100, .ref 101, .ref 102, .ref 103, .ref 104, .ref 105, .ref 106, .ref 107, .ref 108, .ref 109, .ref 110, .ref 111, .ref 112, .ref 113, .ref 114, .ref 115, .ref 116, .ref 117, .ref 118, .ref 119, .ref 120, .ref 121, .ref 122, .ref 123, .ref 124, .ref 125, .ref 126, .ref 127, .ref 128, .ref 129, .ref 130, .ref 131]),
  (0, [.long (-1), .long 2305843009213693951]),
  (13, List.replicate 31 (.int 0)),
  (0, [.long 0, .long 0]),
  (0, [.long 0, .long 0]),
  (0, [.long 0, .long 0]),
  (0, [.long 0, .long 0]),
  (0, [.long 0, .long 0]),
  (0, [.long 0, .long 0]),
  (0, [.long 0, .long 0]),
  (0, [.long 0, .long 0]),
  (0, [.long 0, .long 0]),
  (0, [.long 0, .long 0]),
  (0, [.long 0, .long 0]),
  (0, [.long 0, .long 0]),
  (0, [.long 0, .long 0]),
  (0, [.long 0, .long 0]),
  (0, [.long 0, .long 0]),
  (0, [.long 0, .long 0]),
  (0, [.long 0, .long 0]),
  (0, [.long 0, .long 0]),
  (0, [.long 0, .long 0]),
  (0, [.long 0, .long 0]),
  (0, [.long 0, .long 0]),
  (0, [.long 0, .long 0]),
  (0, [.long 0, .long 0]),
  (0, [.long 0, .long 0]),
  (0, [.long 0, .long 0]),
  (0, [.long 0, .long 0]),
  (0, [.long 0, .long 0]),
  (0, [.long 0, .long 0]),
  (0, [.long 0, .long 0]),
  (0, [.long 0, .long 0]),
  (0, [.long 0, .long 0]),
  (0, [.long 0, .long 0]),
  (0, [.long 0, .long 0]),
  (0, [.long 0, .long 0]),
  (0, [.long 0, .long 0]),
  (0, [.long 0, .long 0]),
  (0, [.long 0, .long 0]),
  (0, [.long 0, .long 0]),
  (0, [.long 0, .long 0]),
  (0, [.long 0, .long 0]),
  (0, [.long 0, .long 0]),
  (0, [.long 0, .long 0]),
  (0, [.long 0, .long 0]),
  (0, [.long 0, .long 0]),
  (0, [.long 0, .long 0]),
  (2, [.int 0, .int 0, .ref 133, .ref 134]),
  (13, List.replicate 50 (.int 0)),
  (13, List.replicate 24 (.int 0)),
  (19, [.ref 139, .ref 141, .ref 143, .ref 145, .ref 147, .ref 149]),
  (6, [.int (-1), .int (-1), .int 0, .ref 137]),
  (14, List.replicate 60 (.long 0)),
  (0, [.long 0, .long 0]),
  (6, [.int (-1), .int (-1), .int 0, .ref 140]),
  (14, List.replicate 60 (.long 0)),
  (6, [.int (-1), .int (-1), .int 0, .ref 142]),
  (14, List.replicate 60 (.long 0)),
  (6, [.int (-1), .int (-1), .int 0, .ref 144]),
  (14, List.replicate 60 (.long 0)),
  (6, [.int (-1), .int (-1), .int 0, .ref 146]),
  (14, List.replicate 60 (.long 0)),
  (6, [.int (-1), .int (-1), .int 0, .ref 148]),
  (14, List.replicate 60 (.long 0)),
  (6, [.int (-1), .int (-1), .int 0, .ref 150]),
  (14, List.replicate 60 (.long 0)),
  (11, [.int 0, .ref 152, .int 0, .int 0, .int 0, .int 0, .int 0, .ref 153, .ref 154, .ref 155, .ref 156, .ref 157, .ref 158, .ref 159, .int 0, .ref 160, .ref 161, .ref 162, .int 0, .int 99, .ref 163, .ref 164, .ref 165, .int 0, .int 0, .ref 166, .ref 167, .ref 168, .ref 169, .ref 170, .int 0, .int 0, .ref 171, .ref 172, .ref 173, .int 0, .int 0, .ref 174, .ref 175, .ref 176, .ref 177, .ref 178, .int 0, .ref 179, .int 0, .ref 180, .ref 181, .ref 182, .ref 183, .ref 184]),
  (12, List.replicate 60 (.int 0)),
  (12, List.replicate 1430 (.int 0)),
  (13, List.replicate 1430 (.int 0)),
  (13, List.replicate 11 (.int 0)),
  (15, List.replicate 671 (.int 0)),
  (15, List.replicate 671 (.int 0)),
  (13, List.replicate 6 (.int 0)),
  (13, List.replicate 130 (.int 0)),
  (13, List.replicate 11 (.int 0)),
  (13, List.replicate 11 (.int 0)),
  (13, List.replicate 11 (.int 0)),
  (13, [.int (-1), .int (-1), .int (-1)]),
  (13, [.int 0, .int 0, .int 0]),
  (12, List.replicate 60 (.int 0)),
  (13, List.replicate 40 (.int 0)),
  (13, List.replicate 40 (.int 0)),
  (13, List.replicate 40 (.int 0)),
  (13, List.replicate 40 (.int 0)),
  (16, List.replicate 11 (.int 0)),
  (16, List.replicate 1375 (.int 0)),
  (13, List.replicate 11 (.int 0)),
  (13, List.replicate 125 (.int 0)),
  (13, List.replicate 10 (.int 0)),
  (13, List.replicate 10 (.int 0)),
  (13, List.replicate 10 (.int 0)),
  (13, [.int 0, .int 0, .int 0]),
  (13, [.int 0, .int 0, .int 0]),
  (13, List.replicate 50 (.int 0)),
  (13, List.replicate 24 (.int 0)),
  (13, List.replicate 6 (.int (-1))),
  (13, List.replicate 6 (.int 0)),
  (14, List.replicate 360 (.long 0)),
  (14, List.replicate 60 (.long 0))]
theorem s_pin {a : Int32} {k : Int} {v : Int32} (h : a.toInt = k) (hv : v.toInt = k) : a = v := Int32.toInt_inj.mp (h.trans hv.symm)
theorem s_rg_0_1 {a : Int32} (h1 : 0 ≤ a.toInt) (h2 : a.toInt ≤ 1) : a = 0 ∨ a = 1 := by
  rcases (show a.toInt = 0 ∨ a.toInt = 1 by omega) with h | h
  · exact Or.inl (s_pin h (by decide))
  · exact Or.inr (s_pin h (by decide))
theorem s_rg_0_2 {a : Int32} (h1 : 0 ≤ a.toInt) (h2 : a.toInt ≤ 2) : a = 0 ∨ a = 1 ∨ a = 2 := by
  rcases (show a.toInt = 0 ∨ a.toInt = 1 ∨ a.toInt = 2 by omega) with h | h | h
  · exact Or.inl (s_pin h (by decide))
  · exact Or.inr (Or.inl (s_pin h (by decide)))
  · exact Or.inr (Or.inr (s_pin h (by decide)))
theorem s_rg_0_3 {a : Int32} (h1 : 0 ≤ a.toInt) (h2 : a.toInt ≤ 3) : a = 0 ∨ a = 1 ∨ a = 2 ∨ a = 3 := by
  rcases (show a.toInt = 0 ∨ a.toInt = 1 ∨ a.toInt = 2 ∨ a.toInt = 3 by omega) with h | h | h | h
  · exact Or.inl (s_pin h (by decide))
  · exact Or.inr (Or.inl (s_pin h (by decide)))
  · exact Or.inr (Or.inr (Or.inl (s_pin h (by decide))))
  · exact Or.inr (Or.inr (Or.inr (s_pin h (by decide))))
theorem s_rg_0_4 {a : Int32} (h1 : 0 ≤ a.toInt) (h2 : a.toInt ≤ 4) : a = 0 ∨ a = 1 ∨ a = 2 ∨ a = 3 ∨ a = 4 := by
  rcases (show a.toInt = 0 ∨ a.toInt = 1 ∨ a.toInt = 2 ∨ a.toInt = 3 ∨ a.toInt = 4 by omega) with h | h | h | h | h
  · exact Or.inl (s_pin h (by decide))
  · exact Or.inr (Or.inl (s_pin h (by decide)))
  · exact Or.inr (Or.inr (Or.inl (s_pin h (by decide))))
  · exact Or.inr (Or.inr (Or.inr (Or.inl (s_pin h (by decide)))))
  · exact Or.inr (Or.inr (Or.inr (Or.inr (s_pin h (by decide)))))
theorem s_rg_0_5 {a : Int32} (h1 : 0 ≤ a.toInt) (h2 : a.toInt ≤ 5) : a = 0 ∨ a = 1 ∨ a = 2 ∨ a = 3 ∨ a = 4 ∨ a = 5 := by
  rcases (show a.toInt = 0 ∨ a.toInt = 1 ∨ a.toInt = 2 ∨ a.toInt = 3 ∨ a.toInt = 4 ∨ a.toInt = 5 by omega) with h | h | h | h | h | h
  · exact Or.inl (s_pin h (by decide))
  · exact Or.inr (Or.inl (s_pin h (by decide)))
  · exact Or.inr (Or.inr (Or.inl (s_pin h (by decide))))
  · exact Or.inr (Or.inr (Or.inr (Or.inl (s_pin h (by decide)))))
  · exact Or.inr (Or.inr (Or.inr (Or.inr (Or.inl (s_pin h (by decide))))))
  · exact Or.inr (Or.inr (Or.inr (Or.inr (Or.inr (s_pin h (by decide))))))
theorem s_rg_0_6 {a : Int32} (h1 : 0 ≤ a.toInt) (h2 : a.toInt ≤ 6) : a = 0 ∨ a = 1 ∨ a = 2 ∨ a = 3 ∨ a = 4 ∨ a = 5 ∨ a = 6 := by
  rcases (show a.toInt = 0 ∨ a.toInt = 1 ∨ a.toInt = 2 ∨ a.toInt = 3 ∨ a.toInt = 4 ∨ a.toInt = 5 ∨ a.toInt = 6 by omega) with h | h | h | h | h | h | h
  · exact Or.inl (s_pin h (by decide))
  · exact Or.inr (Or.inl (s_pin h (by decide)))
  · exact Or.inr (Or.inr (Or.inl (s_pin h (by decide))))
  · exact Or.inr (Or.inr (Or.inr (Or.inl (s_pin h (by decide)))))
  · exact Or.inr (Or.inr (Or.inr (Or.inr (Or.inl (s_pin h (by decide))))))
  · exact Or.inr (Or.inr (Or.inr (Or.inr (Or.inr (Or.inl (s_pin h (by decide)))))))
  · exact Or.inr (Or.inr (Or.inr (Or.inr (Or.inr (Or.inr (s_pin h (by decide)))))))
end
section
/-! the calls on fresh objects: feed law laws speaks judge falseOnes under body act trace -/
set_option maxRecDepth 1000000 in
theorem s_cla_0 : s_out (s_x s_prog s_fty s_ft (s_rows 2 0 (fun _ => 0)) 128 1298 s_e68.1 0 (lv_args 0 [.ref 3, .ref 1, .int 0]) [] s_M0) (some (.int 0)) s_M0 s_M0 = true := by decide +kernel
set_option maxRecDepth 1000000 in
theorem s_cla_1 : s_out (s_x s_prog s_fty s_ft (s_rows 2 0 (fun _ => 0)) 157 1298 s_e197.1 0 (lv_args 0 [.ref 151, .int 0]) [] s_M0) (some (.int 0)) s_M0 ((((s_M0.set 151 (11, ([Value.int 0, Value.ref 152, Value.int 0, Value.int 0, Value.int 0, Value.int 0, Value.int 1, Value.ref 153, Value.ref 154, Value.ref 155, Value.ref 156, Value.ref 157, Value.ref 158, Value.ref 159, Value.int 0, Value.ref 160, Value.ref 161, Value.ref 162, Value.int 0, Value.int 99, Value.ref 163, Value.ref 164, Value.ref 165, Value.int 0, Value.int 0, Value.ref 166, Value.ref 167, Value.ref 168, Value.ref 169, Value.ref 170, Value.int 0, Value.int 0, Value.ref 171, Value.ref 172, Value.ref 173, Value.int 0, Value.int 0, Value.ref 174, Value.ref 175, Value.ref 176, Value.ref 177, Value.ref 178, Value.int 0, Value.ref 179, Value.int 0, Value.ref 180, Value.ref 181, Value.ref 182, Value.ref 183, Value.ref 184] : List Value))).set 153 (12, ([Value.int 0, Value.int 0, Value.int 0, Value.int 0, Value.int 0, Value.int 0, Value.int 0, Value.int 0, Value.int 0, Value.int 0, Value.int 0, Value.int 0, Value.int 0, Value.int 0, Value.int 0, Value.int 0, Value.int 0, Value.int 0, Value.int 0, Value.int 0, Value.int 0, Value.int 0, Value.int 0, Value.int 0, Value.int 0, Value.int 0, Value.int 0, Value.int 0, Value.int 0, Value.int 0, Value.int 0, Value.int 0, Value.int 0, Value.int 0, Value.int 0, Value.int 0, Value.int 0, Value.int 0, Value.int 0, Value.int 0, Value.int 0, Value.int 0, Value.int 0, Value.int 0, Value.int 0, Value.int 0, Value.int 0, Value.int 0, Value.int 0, Value.int 0, Value.int 0, Value.int 0, Value.int 0, Value.int 0, Value.int 0, Value.int 0, Value.int 0, Value.int 0, Value.int 0, Value.int 0, Value.int 0, Value.int 0, Value.int 0, Value.int 0, Value.int 0, Value.int 0, Value.int 0, Value.int 0, Value.int 0, Value.int 0, Value.int 0, Value.int 0, Value.int 0, Value.int 0, Value.int 0, Value.int 0, Value.int 0, Value.int 0, Value.int 0, Value.int 0, Value.int 0, Value.int 0, Value.int 0, Value.int 0, Value.int 0, Value.int 0, Value.int 0, Value.int 0, Value.int 0, Value.int 0, Value.int 0, Value.int 0, Value.int 0, Value.int 0, Value.int 0, Value.int 0, Value.int 0, Value.int 0, Value.int 0, Value.int 0, Value.int 0, Value.int 0, Value.int 0, Value.int 0, Value.int 0, Value.int 0, Value.int 0, Value.int 0, Value.int 0, Value.int 0, Value.int 0, Value.int 0, Value.int 0, Value.int 0, Value.int 0, Value.int 0, Value.int 0, Value.int 0, Value.int 0, Value.int 0, Value.int 0, Value.int 0, Value.int 0, Value.int 0, Value.int 0, Value.int 0, Value.int 0, Value.int 0, Value.int 0, Value.int 0, Value.int 0, Value.int 0, Value.int 0, Value.int 0, Value.int 0, Value.int 0, Value.int 0, Value.int 0, Value.int 0, Value.int 0, Value.int 0, Value.int 0, Value.int 0, Value.int 0, Value.int 0, Value.int 0, Value.int 0, Value.int 0, Value.int 0, Value.int 0, Value.int 0, Value.int 0, Value.int 0, Value.int 0, Value.int 0, Value.int 0, Value.int 0, Value.int 0, Value.int 0, Value.int 0, Value.int 0, Value.int 0, Value.int 0, Value.int 0, Value.int 0, Value.int 0, Value.int 0, Value.int 0, Value.int 0, Value.int 0, Value.int 0, Value.int 0, Value.int 0, Value.int 0, Value.int 0, Value.int 0, Value.int 0, Value.int 0, Value.int 0, Value.int 0, Value.int 0, Value.int 0, Value.int 0, Value.int 0, Value.int 0, Value.int 0, Value.int 0, Value.int 0, Value.int 0, Value.int 0, Value.int 0, Value.int 0, Value.int 0, Value.int 0, Value.int 0, Value.int 0, Value.int 0, Value.int 0, Value.int 0, Value.int 0, Value.int 0, Value.int 0, Value.int 0, Value.int 0, Value.int 0, Value.int 0, Value.int 0, Value.int 0, Value.int 0, Value.int 0, Value.int 0, Value.int 0, Value.int 0, Value.int 0, Value.int 0, Value.int 0, Value.int 0, Value.int 0, Value.int 0, Value.int 0, Value.int 0, Value.int 0, Value.int 0, Value.int 0, Value.int 0, Value.int 0, Value.int 0, Value.int 0, Value.int 0, Value.int 0, Value.int 0, Value.int 0, Value.int 0, Value.int 0, Value.int 0, Value.int 0, Value.int 0, Value.int 0, Value.int 0, Value.int 0, Value.int 0, Value.int 0, Value.int 0, Value.int 0, Value.int 0, Value.int 0, Value.int 0, Value.int 0, Value.int 0, Value.int 0, Value.int 0, Value.int 0, Value.int 0, Value.int 0, Value.int 0, Value.int 0, Value.int 0, Value.int 0, Value.int 0, Value.int 0, Value.int 0, Value.int 0, Value.int 0, Value.int 0, Value.int 0, Value.int 0, Value.int 0, Value.int 0, Value.int 0, Value.int 0, Value.int 0, Value.int 0, Value.int 0, Value.int 0, Value.int 0, Value.int 0, Value.int 0, Value.int 0, Value.int 0, Value.int 0, Value.int 0, Value.int 0, Value.int 0, Value.int 0, Value.int 0, Value.int 0, Value.int 0, Value.int 0, Value.int 0, Value.int 0, Value.int 0, Value.int 0, Value.int 0, Value.int 0, Value.int 0, Value.int 0, Value.int 0, Value.int 0, Value.int 0, Value.int 0, Value.int 0, Value.int 0, Value.int 0, Value.int 0, Value.int 0, Value.int 0, Value.int 0, Value.int 0, Value.int 0, Value.int 0, Value.int 0, Value.int 0, Value.int 0, Value.int 0, Value.int 0, Value.int 0, Value.int 0, Value.int 0, Value.int 0, Value.int 0, Value.int 0, Value.int 0, Value.int 0, Value.int 0, Value.int 0, Value.int 0, Value.int 0, Value.int 0, Value.int 0, Value.int 0, Value.int 0, Value.int 0, Value.int 0, Value.int 0, Value.int 0, Value.int 0, Value.int 0, Value.int 0, Value.int 0, Value.int 0, Value.int 0, Value.int 0, Value.int 0, Value.int 0, Value.int 0, Value.int 0, Value.int 0, Value.int 0, Value.int 0, Value.int 0, Value.int 0, Value.int 0, Value.int 0, Value.int 0, Value.int 0, Value.int 0, Value.int 0, Value.int 0, Value.int 0, Value.int 0, Value.int 0, Value.int 0, Value.int 0, Value.int 0, Value.int 0, Value.int 0, Value.int 0, Value.int 0, Value.int 0, Value.int 0, Value.int 0, Value.int 0, Value.int 0, Value.int 0, Value.int 0, Value.int 0, Value.int 0, Value.int 0, Value.int 0, Value.int 0, Value.int 0, Value.int 0, Value.int 0, Value.int 0, Value.int 0, Value.int 0, Value.int 0, Value.int 0, Value.int 0, Value.int 0, Value.int 0, Value.int 0, Value.int 0, Value.int 0, Value.int 0, Value.int 0, Value.int 0, Value.int 0, Value.int 0, Value.int 0, Value.int 0, Value.int 0, Value.int 0, Value.int 0, Value.int 0, Value.int 0, Value.int 0, Value.int 0, Value.int 0, Value.int 0, Value.int 0, Value.int 0, Value.int 0, Value.int 0, Value.int 0, Value.int 0, Value.int 0, Value.int 0, Value.int 0, Value.int 0, Value.int 0, Value.int 0, Value.int 0, Value.int 0, Value.int 0, Value.int 0, Value.int 0, Value.int 0, Value.int 0, Value.int 0, Value.int 0, Value.int 0, Value.int 0, Value.int 0, Value.int 0, Value.int 0, Value.int 0, Value.int 0, Value.int 0, Value.int 0, Value.int 0, Value.int 0, Value.int 0, Value.int 0, Value.int 0, Value.int 0, Value.int 0, Value.int 0, Value.int 0, Value.int 0, Value.int 0, Value.int 0, Value.int 0, Value.int 0, Value.int 0, Value.int 0, Value.int 0, Value.int 0, Value.int 0, Value.int 0, Value.int 0, Value.int 0, Value.int 0, Value.int 0, Value.int 0, Value.int 0, Value.int 0, Value.int 0, Value.int 0, Value.int 0, Value.int 0, Value.int 0, Value.int 0, Value.int 0, Value.int 0, Value.int 0, Value.int 0, Value.int 0, Value.int 0, Value.int 0, Value.int 0, Value.int 0, Value.int 0, Value.int 0, Value.int 0, Value.int 0, Value.int 0, Value.int 0, Value.int 0, Value.int 0, Value.int 0, Value.int 0, Value.int 0, Value.int 0, Value.int 0, Value.int 0, Value.int 0, Value.int 0, Value.int 0, Value.int 0, Value.int 0, Value.int 0, Value.int 0, Value.int 0, Value.int 0, Value.int 0, Value.int 0, Value.int 0, Value.int 0, Value.int 0, Value.int 0, Value.int 0, Value.int 0, Value.int 0, Value.int 0, Value.int 0, Value.int 0, Value.int 0, Value.int 0, Value.int 0, Value.int 0, Value.int 0, Value.int 0, Value.int 0, Value.int 0, Value.int 0, Value.int 0, Value.int 0, Value.int 0, Value.int 0, Value.int 0, Value.int 0, Value.int 0, Value.int 0, Value.int 0, Value.int 0, Value.int 0, Value.int 0, Value.int 0, Value.int 0, Value.int 0, Value.int 0, Value.int 0, Value.int 0, Value.int 0, Value.int 0, Value.int 0, Value.int 0, Value.int 0, Value.int 0, Value.int 0, Value.int 0, Value.int 0, Value.int 0, Value.int 0, Value.int 0, Value.int 0, Value.int 0, Value.int 0, Value.int 0, Value.int 0, Value.int 0, Value.int 0, Value.int 0, Value.int 0, Value.int 0, Value.int 0, Value.int 0, Value.int 0, Value.int 0, Value.int 0, Value.int 0, Value.int 0, Value.int 0, Value.int 0, Value.int 0, Value.int 0, Value.int 0, Value.int 0, Value.int 0, Value.int 0, Value.int 0, Value.int 0, Value.int 0, Value.int 0, Value.int 0, Value.int 0, Value.int 0, Value.int 0, Value.int 0, Value.int 0, Value.int 0, Value.int 0, Value.int 0, Value.int 0, Value.int 0, Value.int 0, Value.int 0, Value.int 0, Value.int 0, Value.int 0, Value.int 0, Value.int 0, Value.int 0, Value.int 0, Value.int 0, Value.int 0, Value.int 0, Value.int 0, Value.int 0, Value.int 0, Value.int 0, Value.int 0, Value.int 0, Value.int 0, Value.int 0, Value.int 0, Value.int 0, Value.int 0, Value.int 0, Value.int 0, Value.int 0, Value.int 0, Value.int 0, Value.int 0, Value.int 0, Value.int 0, Value.int 0, Value.int 0, Value.int 0, Value.int 0, Value.int 0, Value.int 0, Value.int 0, Value.int 0, Value.int 0, Value.int 0, Value.int 0, Value.int 0, Value.int 0, Value.int 0, Value.int 0, Value.int 0, Value.int 0, Value.int 0, Value.int 0, Value.int 0, Value.int 0, Value.int 0, Value.int 0, Value.int 0, Value.int 0, Value.int 0, Value.int 0, Value.int 0, Value.int 0, Value.int 0, Value.int 0, Value.int 0, Value.int 0, Value.int 0, Value.int 0, Value.int 0, Value.int 0, Value.int 0, Value.int 0, Value.int 0, Value.int 0, Value.int 0, Value.int 0, Value.int 0, Value.int 0, Value.int 0, Value.int 0, Value.int 0, Value.int 0, Value.int 0, Value.int 0, Value.int 0, Value.int 0, Value.int 0, Value.int 0, Value.int 0, Value.int 0, Value.int 0, Value.int 0, Value.int 0, Value.int 0, Value.int 0, Value.int 0, Value.int 0, Value.int 0, Value.int 0, Value.int 0, Value.int 0, Value.int 0, Value.int 0, Value.int 0, Value.int 0, Value.int 0, Value.int 0, Value.int 0, Value.int 0, Value.int 0, Value.int 0, Value.int 0, Value.int 0, Value.int 0, Value.int 0, Value.int 0, Value.int 0, Value.int 0, Value.int 0, Value.int 0, Value.int 0, Value.int 0, Value.int 0, Value.int 0, Value.int 0, Value.int 0, Value.int 0, Value.int 0, Value.int 0, Value.int 0, Value.int 0, Value.int 0, Value.int 0, Value.int 0, Value.int 0, Value.int 0, Value.int 0, Value.int 0, Value.int 0, Value.int 0, Value.int 0, Value.int 0, Value.int 0, Value.int 0, Value.int 0, Value.int 0, Value.int 0, Value.int 0, Value.int 0, Value.int 0, Value.int 0, Value.int 0, Value.int 0, Value.int 0, Value.int 0, Value.int 0, Value.int 0, Value.int 0, Value.int 0, Value.int 0, Value.int 0, Value.int 0, Value.int 0, Value.int 0, Value.int 0, Value.int 0, Value.int 0, Value.int 0, Value.int 0, Value.int 0, Value.int 0, Value.int 0, Value.int 0, Value.int 0, Value.int 0, Value.int 0, Value.int 0, Value.int 0, Value.int 0, Value.int 0, Value.int 0, Value.int 0, Value.int 0, Value.int 0, Value.int 0, Value.int 0, Value.int 0, Value.int 0, Value.int 0, Value.int 0, Value.int 0, Value.int 0, Value.int 0, Value.int 0, Value.int 0, Value.int 0, Value.int 0, Value.int 0, Value.int 0, Value.int 0, Value.int 0, Value.int 0, Value.int 0, Value.int 0, Value.int 0, Value.int 0, Value.int 0, Value.int 0, Value.int 0, Value.int 0, Value.int 0, Value.int 0, Value.int 0, Value.int 0, Value.int 0, Value.int 0, Value.int 0, Value.int 0, Value.int 0, Value.int 0, Value.int 0, Value.int 0, Value.int 0, Value.int 0, Value.int 0, Value.int 0, Value.int 0, Value.int 0, Value.int 0, Value.int 0, Value.int 0, Value.int 0, Value.int 0, Value.int 0, Value.int 0, Value.int 0, Value.int 0, Value.int 0, Value.int 0, Value.int 0, Value.int 0, Value.int 0, Value.int 0, Value.int 0, Value.int 0, Value.int 0, Value.int 0, Value.int 0, Value.int 0, Value.int 0, Value.int 0, Value.int 0, Value.int 0, Value.int 0, Value.int 0, Value.int 0, Value.int 0, Value.int 0, Value.int 0, Value.int 0, Value.int 0, Value.int 0, Value.int 0, Value.int 0, Value.int 0, Value.int 0, Value.int 0, Value.int 0, Value.int 0, Value.int 0, Value.int 0, Value.int 0, Value.int 0, Value.int 0, Value.int 0, Value.int 0, Value.int 0, Value.int 0, Value.int 0, Value.int 0, Value.int 0, Value.int 0, Value.int 0, Value.int 0, Value.int 0, Value.int 0, Value.int 0, Value.int 0, Value.int 0, Value.int 0, Value.int 0, Value.int 0, Value.int 0, Value.int 0, Value.int 0, Value.int 0, Value.int 0, Value.int 0, Value.int 0, Value.int 0, Value.int 0, Value.int 0, Value.int 0, Value.int 0, Value.int 0, Value.int 0, Value.int 0, Value.int 0, Value.int 0, Value.int 0, Value.int 0, Value.int 0, Value.int 0, Value.int 0, Value.int 0, Value.int 0, Value.int 0, Value.int 0, Value.int 0, Value.int 0, Value.int 0, Value.int 0, Value.int 0, Value.int 0, Value.int 0, Value.int 0, Value.int 0, Value.int 0, Value.int 0, Value.int 0, Value.int 0, Value.int 0, Value.int 0, Value.int 0, Value.int 0, Value.int 0, Value.int 0, Value.int 0, Value.int 0, Value.int 0, Value.int 0, Value.int 0, Value.int 0, Value.int 0, Value.int 0, Value.int 0, Value.int 0, Value.int 0, Value.int 0, Value.int 0, Value.int 0, Value.int 0, Value.int 0, Value.int 0, Value.int 0, Value.int 0, Value.int 0, Value.int 0, Value.int 0, Value.int 0, Value.int 0, Value.int 0, Value.int 0, Value.int 0, Value.int 0, Value.int 0, Value.int 0, Value.int 0, Value.int 0, Value.int 0, Value.int 0, Value.int 0, Value.int 0, Value.int 0, Value.int 0, Value.int 0, Value.int 0, Value.int 0, Value.int 0, Value.int 0, Value.int 0, Value.int 0, Value.int 0, Value.int 0, Value.int 0, Value.int 0, Value.int 0, Value.int 0, Value.int 0, Value.int 0, Value.int 0, Value.int 0, Value.int 0, Value.int 0, Value.int 0, Value.int 0, Value.int 0, Value.int 0, Value.int 0, Value.int 0, Value.int 0, Value.int 0, Value.int 0, Value.int 0, Value.int 0, Value.int 0, Value.int 0, Value.int 0, Value.int 0, Value.int 0, Value.int 0, Value.int 0, Value.int 0, Value.int 0, Value.int 0, Value.int 0, Value.int 0, Value.int 0, Value.int 0, Value.int 0, Value.int 0, Value.int 0, Value.int 0, Value.int 0, Value.int 0, Value.int 0, Value.int 0, Value.int 0, Value.int 0, Value.int 0, Value.int 0, Value.int 0, Value.int 0, Value.int 0, Value.int 0, Value.int 0, Value.int 0, Value.int 0, Value.int 0, Value.int 0, Value.int 0, Value.int 0, Value.int 0, Value.int 0, Value.int 0, Value.int 0, Value.int 0, Value.int 0, Value.int 0, Value.int 0, Value.int 0, Value.int 0, Value.int 0, Value.int 0, Value.int 0, Value.int 0, Value.int 0, Value.int 0, Value.int 0, Value.int 0, Value.int 0, Value.int 0, Value.int 0, Value.int 0, Value.int 0, Value.int 0, Value.int 0, Value.int 0, Value.int 0, Value.int 0, Value.int 0, Value.int 0, Value.int 0, Value.int 0, Value.int 0, Value.int 0, Value.int 0, Value.int 0, Value.int 0, Value.int 0, Value.int 0, Value.int 0, Value.int 0, Value.int 0, Value.int 0, Value.int 0, Value.int 0, Value.int 0, Value.int 0, Value.int 0, Value.int 0, Value.int 0, Value.int 0, Value.int 0, Value.int 0, Value.int 0, Value.int 0, Value.int 0, Value.int 0, Value.int 0, Value.int 0, Value.int 0, Value.int 0, Value.int 0, Value.int 0, Value.int 0, Value.int 0, Value.int 0, Value.int 0, Value.int 0, Value.int 0, Value.int 0, Value.int 0, Value.int 0, Value.int 0, Value.int 0, Value.int 0, Value.int 0, Value.int 0, Value.int 0, Value.int 0, Value.int 0, Value.int 0, Value.int 0, Value.int 0, Value.int 0, Value.int 0, Value.int 0, Value.int 0, Value.int 0, Value.int 0, Value.int 0, Value.int 0, Value.int 0, Value.int 0, Value.int 0, Value.int 0, Value.int 0, Value.int 0, Value.int 0, Value.int 0, Value.int 0, Value.int 0, Value.int 0, Value.int 0, Value.int 0, Value.int 0, Value.int 0, Value.int 0, Value.int 0, Value.int 0, Value.int 0, Value.int 0, Value.int 0, Value.int 0, Value.int 0, Value.int 0, Value.int 0, Value.int 0, Value.int 0, Value.int 0, Value.int 0, Value.int 0, Value.int 0, Value.int 0, Value.int 0, Value.int 0, Value.int 0, Value.int 0, Value.int 0, Value.int 0, Value.int 0, Value.int 0, Value.int 0, Value.int 0, Value.int 0, Value.int 0, Value.int 0, Value.int 0, Value.int 0, Value.int 0, Value.int 0, Value.int 0, Value.int 0, Value.int 0, Value.int 0, Value.int 0, Value.int 0, Value.int 0, Value.int 0, Value.int 0, Value.int 0, Value.int 0, Value.int 0, Value.int 0, Value.int 0, Value.int 0, Value.int 0, Value.int 0, Value.int 0, Value.int 0, Value.int 0, Value.int 0, Value.int 0, Value.int 0, Value.int 0, Value.int 0, Value.int 0, Value.int 0, Value.int 0, Value.int 0, Value.int 0, Value.int 0, Value.int 0, Value.int 0, Value.int 0, Value.int 0, Value.int 0, Value.int 0, Value.int 0, Value.int 0, Value.int 0, Value.int 0, Value.int 0, Value.int 0, Value.int 0, Value.int 0, Value.int 0, Value.int 0, Value.int 0, Value.int 0, Value.int 0, Value.int 0, Value.int 0, Value.int 0, Value.int 0, Value.int 0, Value.int 0, Value.int 0, Value.int 0, Value.int 0, Value.int 0, Value.int 0, Value.int 0, Value.int 0, Value.int 0, Value.int 0, Value.int 0, Value.int 0, Value.int 0, Value.int 0, Value.int 0, Value.int 0, Value.int 0, Value.int 0, Value.int 0, Value.int 0, Value.int 0, Value.int 0, Value.int 0, Value.int 0, Value.int 0, Value.int 0, Value.int 0, Value.int 0, Value.int 0, Value.int 0, Value.int 0, Value.int 0, Value.int 0, Value.int 0, Value.int 0, Value.int 0, Value.int 0, Value.int 0, Value.int 0, Value.int 0, Value.int 0, Value.int 0, Value.int 0, Value.int 0, Value.int 0, Value.int 0, Value.int 0, Value.int 0, Value.int 0, Value.int 0, Value.int 0, Value.int 0, Value.int 0, Value.int 0, Value.int 0, Value.int 0, Value.int 0, Value.int 0, Value.int 0, Value.int 0, Value.int 0, Value.int 0, Value.int 0, Value.int 0, Value.int 0, Value.int 0, Value.int 0, Value.int 0, Value.int 0, Value.int 1, Value.int 0, Value.int 0, Value.int 0, Value.int 0, Value.int 0, Value.int 0, Value.int 0, Value.int 0, Value.int 0, Value.int 0, Value.int 0, Value.int 0, Value.int 0, Value.int 0, Value.int 0, Value.int 0, Value.int 0, Value.int 0, Value.int 0, Value.int 0, Value.int 0, Value.int 0, Value.int 0, Value.int 0, Value.int 0, Value.int 0, Value.int 0, Value.int 0, Value.int 0, Value.int 0, Value.int 0, Value.int 0, Value.int 0, Value.int 0, Value.int 0, Value.int 0, Value.int 0, Value.int 0, Value.int 0, Value.int 0, Value.int 0, Value.int 0, Value.int 0, Value.int 0, Value.int 0, Value.int 0, Value.int 0, Value.int 0, Value.int 0, Value.int 0, Value.int 0, Value.int 0, Value.int 0, Value.int 0, Value.int 0, Value.int 0, Value.int 0, Value.int 0, Value.int 0, Value.int 0, Value.int 0, Value.int 0, Value.int 0, Value.int 0, Value.int 0, Value.int 0, Value.int 0, Value.int 0, Value.int 0, Value.int 0, Value.int 0, Value.int 0, Value.int 0, Value.int 0, Value.int 0, Value.int 0, Value.int 0, Value.int 0, Value.int 0, Value.int 0, Value.int 0, Value.int 0, Value.int 0, Value.int 0, Value.int 0, Value.int 0, Value.int 0, Value.int 0, Value.int 0, Value.int 0, Value.int 0, Value.int 0, Value.int 0, Value.int 0, Value.int 0, Value.int 0, Value.int 0, Value.int 0, Value.int 0, Value.int 0, Value.int 0, Value.int 0, Value.int 0, Value.int 0, Value.int 0, Value.int 0, Value.int 0, Value.int 0, Value.int 0, Value.int 0, Value.int 0, Value.int 0, Value.int 0, Value.int 0, Value.int 0, Value.int 0, Value.int 0, Value.int 0, Value.int 0, Value.int 0, Value.int 0, Value.int 0, Value.int 0, Value.int 0, Value.int 0, Value.int 0, Value.int 0, Value.int 0, Value.int 0] : List Value))).set 155 (13, ([Value.int 0, Value.int 0, Value.int 0, Value.int 0, Value.int 0, Value.int 0, Value.int 0, Value.int 0, Value.int 0, Value.int 0, Value.int 1] : List Value))).set 157 (15, ([Value.int 0, Value.int 0, Value.int 0, Value.int 0, Value.int 0, Value.int 0, Value.int 0, Value.int 0, Value.int 0, Value.int 0, Value.int 0, Value.int 0, Value.int 0, Value.int 0, Value.int 0, Value.int 0, Value.int 0, Value.int 0, Value.int 0, Value.int 0, Value.int 0, Value.int 0, Value.int 0, Value.int 0, Value.int 0, Value.int 0, Value.int 0, Value.int 0, Value.int 0, Value.int 0, Value.int 0, Value.int 0, Value.int 0, Value.int 0, Value.int 0, Value.int 0, Value.int 0, Value.int 0, Value.int 0, Value.int 0, Value.int 0, Value.int 0, Value.int 0, Value.int 0, Value.int 0, Value.int 0, Value.int 0, Value.int 0, Value.int 0, Value.int 0, Value.int 0, Value.int 0, Value.int 0, Value.int 0, Value.int 0, Value.int 0, Value.int 0, Value.int 0, Value.int 0, Value.int 0, Value.int 0, Value.int 0, Value.int 0, Value.int 0, Value.int 0, Value.int 0, Value.int 0, Value.int 0, Value.int 0, Value.int 0, Value.int 0, Value.int 0, Value.int 0, Value.int 0, Value.int 0, Value.int 0, Value.int 0, Value.int 0, Value.int 0, Value.int 0, Value.int 0, Value.int 0, Value.int 0, Value.int 0, Value.int 0, Value.int 0, Value.int 0, Value.int 0, Value.int 0, Value.int 0, Value.int 0, Value.int 0, Value.int 0, Value.int 0, Value.int 0, Value.int 0, Value.int 0, Value.int 0, Value.int 0, Value.int 0, Value.int 0, Value.int 0, Value.int 0, Value.int 0, Value.int 0, Value.int 0, Value.int 0, Value.int 0, Value.int 0, Value.int 0, Value.int 0, Value.int 0, Value.int 0, Value.int 0, Value.int 0, Value.int 0, Value.int 0, Value.int 0, Value.int 0, Value.int 0, Value.int 0, Value.int 0, Value.int 0, Value.int 0, Value.int 0, Value.int 0, Value.int 0, Value.int 0, Value.int 0, Value.int 0, Value.int 0, Value.int 0, Value.int 0, Value.int 0, Value.int 0, Value.int 0, Value.int 0, Value.int 0, Value.int 0, Value.int 0, Value.int 0, Value.int 0, Value.int 0, Value.int 0, Value.int 0, Value.int 0, Value.int 0, Value.int 0, Value.int 0, Value.int 0, Value.int 0, Value.int 0, Value.int 0, Value.int 0, Value.int 0, Value.int 0, Value.int 0, Value.int 0, Value.int 0, Value.int 0, Value.int 0, Value.int 0, Value.int 0, Value.int 0, Value.int 0, Value.int 0, Value.int 0, Value.int 0, Value.int 0, Value.int 0, Value.int 0, Value.int 0, Value.int 0, Value.int 0, Value.int 0, Value.int 0, Value.int 0, Value.int 0, Value.int 0, Value.int 0, Value.int 0, Value.int 0, Value.int 0, Value.int 0, Value.int 0, Value.int 0, Value.int 0, Value.int 0, Value.int 0, Value.int 0, Value.int 0, Value.int 0, Value.int 0, Value.int 0, Value.int 0, Value.int 0, Value.int 0, Value.int 0, Value.int 0, Value.int 0, Value.int 0, Value.int 0, Value.int 0, Value.int 0, Value.int 0, Value.int 0, Value.int 0, Value.int 0, Value.int 0, Value.int 0, Value.int 0, Value.int 0, Value.int 0, Value.int 0, Value.int 0, Value.int 0, Value.int 0, Value.int 0, Value.int 0, Value.int 0, Value.int 0, Value.int 0, Value.int 0, Value.int 0, Value.int 0, Value.int 0, Value.int 0, Value.int 0, Value.int 0, Value.int 0, Value.int 0, Value.int 0, Value.int 0, Value.int 0, Value.int 0, Value.int 0, Value.int 0, Value.int 0, Value.int 0, Value.int 0, Value.int 0, Value.int 0, Value.int 0, Value.int 0, Value.int 0, Value.int 0, Value.int 0, Value.int 0, Value.int 0, Value.int 0, Value.int 0, Value.int 0, Value.int 0, Value.int 0, Value.int 0, Value.int 0, Value.int 0, Value.int 0, Value.int 0, Value.int 0, Value.int 0, Value.int 0, Value.int 0, Value.int 0, Value.int 0, Value.int 0, Value.int 0, Value.int 0, Value.int 0, Value.int 0, Value.int 0, Value.int 0, Value.int 0, Value.int 0, Value.int 0, Value.int 0, Value.int 0, Value.int 0, Value.int 0, Value.int 0, Value.int 0, Value.int 0, Value.int 0, Value.int 0, Value.int 0, Value.int 0, Value.int 0, Value.int 0, Value.int 0, Value.int 0, Value.int 0, Value.int 0, Value.int 0, Value.int 0, Value.int 0, Value.int 0, Value.int 0, Value.int 0, Value.int 0, Value.int 0, Value.int 0, Value.int 0, Value.int 0, Value.int 0, Value.int 0, Value.int 0, Value.int 0, Value.int 0, Value.int 0, Value.int 0, Value.int 0, Value.int 0, Value.int 0, Value.int 0, Value.int 0, Value.int 0, Value.int 0, Value.int 0, Value.int 0, Value.int 0, Value.int 0, Value.int 0, Value.int 0, Value.int 0, Value.int 0, Value.int 0, Value.int 0, Value.int 0, Value.int 0, Value.int 0, Value.int 0, Value.int 0, Value.int 0, Value.int 0, Value.int 0, Value.int 0, Value.int 0, Value.int 0, Value.int 0, Value.int 0, Value.int 0, Value.int 0, Value.int 0, Value.int 0, Value.int 0, Value.int 0, Value.int 0, Value.int 0, Value.int 0, Value.int 0, Value.int 0, Value.int 0, Value.int 0, Value.int 0, Value.int 0, Value.int 0, Value.int 0, Value.int 0, Value.int 0, Value.int 0, Value.int 0, Value.int 0, Value.int 0, Value.int 0, Value.int 0, Value.int 0, Value.int 0, Value.int 0, Value.int 0, Value.int 0, Value.int 0, Value.int 0, Value.int 0, Value.int 0, Value.int 0, Value.int 0, Value.int 0, Value.int 0, Value.int 0, Value.int 0, Value.int 0, Value.int 0, Value.int 0, Value.int 0, Value.int 0, Value.int 0, Value.int 0, Value.int 0, Value.int 0, Value.int 0, Value.int 0, Value.int 0, Value.int 0, Value.int 0, Value.int 0, Value.int 0, Value.int 0, Value.int 0, Value.int 0, Value.int 0, Value.int 0, Value.int 0, Value.int 0, Value.int 0, Value.int 0, Value.int 0, Value.int 0, Value.int 0, Value.int 0, Value.int 0, Value.int 0, Value.int 0, Value.int 0, Value.int 0, Value.int 0, Value.int 0, Value.int 0, Value.int 0, Value.int 0, Value.int 0, Value.int 0, Value.int 0, Value.int 0, Value.int 0, Value.int 0, Value.int 0, Value.int 0, Value.int 0, Value.int 0, Value.int 0, Value.int 0, Value.int 0, Value.int 0, Value.int 0, Value.int 0, Value.int 0, Value.int 0, Value.int 0, Value.int 0, Value.int 0, Value.int 0, Value.int 0, Value.int 0, Value.int 0, Value.int 0, Value.int 0, Value.int 0, Value.int 0, Value.int 0, Value.int 0, Value.int 0, Value.int 0, Value.int 0, Value.int 0, Value.int 0, Value.int 0, Value.int 0, Value.int 0, Value.int 0, Value.int 0, Value.int 0, Value.int 0, Value.int 0, Value.int 0, Value.int 0, Value.int 0, Value.int 0, Value.int 0, Value.int 0, Value.int 0, Value.int 0, Value.int 0, Value.int 0, Value.int 0, Value.int 0, Value.int 0, Value.int 0, Value.int 0, Value.int 0, Value.int 0, Value.int 0, Value.int 0, Value.int 0, Value.int 0, Value.int 0, Value.int 0, Value.int 0, Value.int 0, Value.int 0, Value.int 0, Value.int 0, Value.int 0, Value.int 0, Value.int 0, Value.int 0, Value.int 0, Value.int 0, Value.int 0, Value.int 0, Value.int 0, Value.int 0, Value.int 0, Value.int 0, Value.int 0, Value.int 0, Value.int 0, Value.int 0, Value.int 0, Value.int 0, Value.int 0, Value.int 0, Value.int 0, Value.int 0, Value.int 0, Value.int 0, Value.int 0, Value.int 0, Value.int 0, Value.int 0, Value.int 0, Value.int 0, Value.int 0, Value.int 0, Value.int 0, Value.int 0, Value.int 0, Value.int 0, Value.int 0, Value.int 0, Value.int 0, Value.int 0, Value.int 0, Value.int 0, Value.int 0, Value.int 0, Value.int 0, Value.int 0, Value.int 0, Value.int 0, Value.int 0, Value.int 0, Value.int 0, Value.int 0, Value.int 0, Value.int 0, Value.int 0, Value.int 0, Value.int 0, Value.int 0, Value.int 0, Value.int 0, Value.int 0, Value.int 0, Value.int 0, Value.int 0, Value.int 0, Value.int 0, Value.int 0, Value.int 0, Value.int 0, Value.int 0, Value.int 0, Value.int 0, Value.int 0, Value.int 0, Value.int 0, Value.int 0, Value.int 0, Value.int 0, Value.int 0, Value.int 0, Value.int 0, Value.int 0, Value.int 0, Value.int 0, Value.int 0, Value.int 0, Value.int 0, Value.int 0, Value.int 0, Value.int 0, Value.int 0, Value.int 0, Value.int 0, Value.int 0, Value.int 0, Value.int 0, Value.int 0, Value.int 0, Value.int 0, Value.int 0, Value.int 0, Value.int 0, Value.int 0, Value.int 0, Value.int 0, Value.int 0, Value.int 0, Value.int 0, Value.int 0, Value.int 0, Value.int 0, Value.int 0, Value.int 0, Value.int 0, Value.int 0, Value.int 0, Value.int 0, Value.int 0, Value.int 0, Value.int 1, Value.int 0, Value.int 0, Value.int 0, Value.int 0, Value.int 0, Value.int 0, Value.int 0, Value.int 0, Value.int 0, Value.int 0, Value.int 0, Value.int 0, Value.int 0, Value.int 0, Value.int 0, Value.int 0, Value.int 0, Value.int 0, Value.int 0, Value.int 0, Value.int 0, Value.int 0, Value.int 0, Value.int 0, Value.int 0, Value.int 0, Value.int 0, Value.int 0, Value.int 0, Value.int 0, Value.int 0, Value.int 0, Value.int 0, Value.int 0, Value.int 0, Value.int 0, Value.int 0, Value.int 0, Value.int 0, Value.int 0, Value.int 0, Value.int 0, Value.int 0, Value.int 0, Value.int 0, Value.int 0, Value.int 0, Value.int 0, Value.int 0, Value.int 0, Value.int 0, Value.int 0, Value.int 0, Value.int 0, Value.int 0, Value.int 0, Value.int 0, Value.int 0, Value.int 0, Value.int 0] : List Value))) = true := by decide +kernel
set_option maxHeartbeats 20000000 in
set_option maxRecDepth 100000 in
theorem s_op_feed (L : Nat) (xs : Nat → Int32) (a : Int32) : s_Ek (s_rows 3 L xs) 1299 s_e134.1 0 (lv_args 0 [.ref 0, .int a]) [] s_M0 (fun v M1 => ∃ r : Int32, v = some (.int r) ∧ s_Ek (s_rows 3 L xs) 1299 s_e183.1 0 (lv_args 0 [.ref 151, .int a]) [] M1 (fun w _ => w = some (.int r))) := by
  show s_Ek (s_rows 3 L xs) 1299 s_e134.1 0 [(0, .ref 0), (1, .int a)] [] s_M0 _
  refine s_ek_bk 1 (P := 1) (ls' := [(0, .ref 0), (1, .int a)]) (st' := [.int a]) (M' := s_M0) rfl ?_
  refine s_ek_if1 (T := 11) rfl rfl (fun h1 => ?_) (fun h1 => ?_)
  · replace h1 : a.toInt < 0 := h1
    refine s_ek_bk 1 (P := 12) (ls' := [(0, .ref 0), (1, .int a)]) (st' := [.int (-1)]) (M' := s_M0) rfl ?_
    refine s_ek_ret (o := some (.int (-1))) (fun _ => rfl) ?_
    refine ⟨(-1), rfl, ?_⟩
    show s_Ek (s_rows 3 L xs) 1299 s_e183.1 0 [(0, .ref 151), (1, .int a)] [] s_M0 _
    refine s_ek_bk 3 (P := 5) (ls' := [(0, .ref 151), (1, .int a)]) (st' := [.int 255, .int 0, .int a]) (M' := s_M0) rfl ?_
    refine s_ek_call (ν := s_e181.1) (P := 8) (as := [.int a, .int 0, .int 255]) (r := []) (fun _ => rfl) rfl ?_
    show s_Ek (s_rows 3 L xs) 1298 s_e181.1 0 [(0, .int a), (1, .int 0), (2, .int 255)] [] s_M0 _
    refine s_ek_bk 2 (P := 2) (ls' := [(0, .int a), (1, .int 0), (2, .int 255)]) (st' := [.int 0, .int a]) (M' := s_M0) rfl ?_
    refine s_ek_if2 (T := 14) rfl rfl (fun h2 => ?_) (fun h2 => ?_)
    · replace h2 : a.toInt < 0 := h2
      refine s_ek_bk 1 (P := 15) (ls' := [(0, .int a), (1, .int 0), (2, .int 255)]) (st' := [.int 0]) (M' := s_M0) rfl ?_
      refine s_ek_ret (o := some (.int 0)) (fun _ => rfl) ?_
      show s_Ek (s_rows 3 L xs) 1299 s_e183.1 8 [(0, .ref 151), (1, .int a)] [.int 0] s_M0 _
      refine s_ek_bk 2 (P := 12) (ls' := [(0, .ref 151), (1, .int a)]) (st' := [.int (-1)]) (M' := s_M0) rfl ?_
      refine s_ek_ret (o := some (.int (-1))) (fun _ => rfl) ?_
      exact rfl
    · replace h2 : ¬ (a.toInt < 0) := h2
      replace h2 : 0 ≤ a.toInt := by omega
      omega
  · replace h1 : ¬ (a.toInt < 0) := h1
    replace h1 : 0 ≤ a.toInt := by omega
    refine s_ek_bk 2 (P := 8) (ls' := [(0, .ref 0), (1, .int a)]) (st' := [.int 255, .int a]) (M' := s_M0) rfl ?_
    refine s_ek_if2 (T := 13) rfl rfl (fun h2 => ?_) (fun h2 => ?_)
    · replace h2 : a.toInt ≤ 255 := h2
      refine s_ek_bk 15 (P := 45) (ls' := [(0, .ref 0), (1, .int a)]) (st' := []) (M' := (s_M0.set 1 (13, ((List.replicate 60 (Value.int 0)).set 0 (Value.int a))))) rfl ?_
      refine s_ek_bk 6 (P := 55) (ls' := [(0, .ref 0), (1, .int a)]) (st' := []) (M' := ((s_M0.set 1 (13, ((List.replicate 60 (Value.int 0)).set 0 (Value.int a)))).set 0 (10, ([Value.ref 1, Value.int 0, Value.ref 2, Value.ref 3, Value.ref 8, Value.ref 73, Value.ref 78, Value.ref 132, Value.ref 135, Value.ref 136, Value.ref 138, Value.int (-1)].set 1 (Value.int 1))))) rfl ?_
      refine s_ek_bk 2 (P := 59) (ls' := [(0, .ref 0), (1, .int a)]) (st' := [.int 1]) (M' := ((s_M0.set 1 (13, ((List.replicate 60 (Value.int 0)).set 0 (Value.int a)))).set 0 (10, ([Value.ref 1, Value.int 0, Value.ref 2, Value.ref 3, Value.ref 8, Value.ref 73, Value.ref 78, Value.ref 132, Value.ref 135, Value.ref 136, Value.ref 138, Value.int (-1)].set 1 (Value.int 1))))) rfl ?_
      refine s_ek_ret (o := some (.int 1)) (fun _ => rfl) ?_
      refine ⟨1, rfl, ?_⟩
      show s_Ek (s_rows 3 L xs) 1299 s_e183.1 0 [(0, .ref 151), (1, .int a)] [] ((s_M0.set 1 (13, ((List.replicate 60 (Value.int 0)).set 0 (Value.int a)))).set 0 (10, ([Value.ref 1, Value.int 0, Value.ref 2, Value.ref 3, Value.ref 8, Value.ref 73, Value.ref 78, Value.ref 132, Value.ref 135, Value.ref 136, Value.ref 138, Value.int (-1)].set 1 (Value.int 1)))) _
      refine s_ek_bk 3 (P := 5) (ls' := [(0, .ref 151), (1, .int a)]) (st' := [.int 255, .int 0, .int a]) (M' := ((s_M0.set 1 (13, ((List.replicate 60 (Value.int 0)).set 0 (Value.int a)))).set 0 (10, ([Value.ref 1, Value.int 0, Value.ref 2, Value.ref 3, Value.ref 8, Value.ref 73, Value.ref 78, Value.ref 132, Value.ref 135, Value.ref 136, Value.ref 138, Value.int (-1)].set 1 (Value.int 1))))) rfl ?_
      refine s_ek_call (ν := s_e181.1) (P := 8) (as := [.int a, .int 0, .int 255]) (r := []) (fun _ => rfl) rfl ?_
      show s_Ek (s_rows 3 L xs) 1298 s_e181.1 0 [(0, .int a), (1, .int 0), (2, .int 255)] [] ((s_M0.set 1 (13, ((List.replicate 60 (Value.int 0)).set 0 (Value.int a)))).set 0 (10, ([Value.ref 1, Value.int 0, Value.ref 2, Value.ref 3, Value.ref 8, Value.ref 73, Value.ref 78, Value.ref 132, Value.ref 135, Value.ref 136, Value.ref 138, Value.int (-1)].set 1 (Value.int 1)))) _
      refine s_ek_bk 2 (P := 2) (ls' := [(0, .int a), (1, .int 0), (2, .int 255)]) (st' := [.int 0, .int a]) (M' := ((s_M0.set 1 (13, ((List.replicate 60 (Value.int 0)).set 0 (Value.int a)))).set 0 (10, ([Value.ref 1, Value.int 0, Value.ref 2, Value.ref 3, Value.ref 8, Value.ref 73, Value.ref 78, Value.ref 132, Value.ref 135, Value.ref 136, Value.ref 138, Value.int (-1)].set 1 (Value.int 1))))) rfl ?_
      refine s_ek_if2 (T := 14) rfl rfl (fun h3 => ?_) (fun h3 => ?_)
      · replace h3 : a.toInt < 0 := h3
        omega
      · replace h3 : ¬ (a.toInt < 0) := h3
        replace h3 : 0 ≤ a.toInt := by omega
        refine s_ek_bk 2 (P := 7) (ls' := [(0, .int a), (1, .int 0), (2, .int 255)]) (st' := [.int 255, .int a]) (M' := ((s_M0.set 1 (13, ((List.replicate 60 (Value.int 0)).set 0 (Value.int a)))).set 0 (10, ([Value.ref 1, Value.int 0, Value.ref 2, Value.ref 3, Value.ref 8, Value.ref 73, Value.ref 78, Value.ref 132, Value.ref 135, Value.ref 136, Value.ref 138, Value.int (-1)].set 1 (Value.int 1))))) rfl ?_
        refine s_ek_if2 (T := 14) rfl rfl (fun h4 => ?_) (fun h4 => ?_)
        · replace h4 : 255 < a.toInt := h4
          omega
        · replace h4 : ¬ (255 < a.toInt) := h4
          replace h4 : a.toInt ≤ 255 := by omega
          refine s_ek_bk 2 (P := 15) (ls' := [(0, .int a), (1, .int 0), (2, .int 255)]) (st' := [.int 1]) (M' := ((s_M0.set 1 (13, ((List.replicate 60 (Value.int 0)).set 0 (Value.int a)))).set 0 (10, ([Value.ref 1, Value.int 0, Value.ref 2, Value.ref 3, Value.ref 8, Value.ref 73, Value.ref 78, Value.ref 132, Value.ref 135, Value.ref 136, Value.ref 138, Value.int (-1)].set 1 (Value.int 1))))) rfl ?_
          refine s_ek_ret (o := some (.int 1)) (fun _ => rfl) ?_
          show s_Ek (s_rows 3 L xs) 1299 s_e183.1 8 [(0, .ref 151), (1, .int a)] [.int 1] ((s_M0.set 1 (13, ((List.replicate 60 (Value.int 0)).set 0 (Value.int a)))).set 0 (10, ([Value.ref 1, Value.int 0, Value.ref 2, Value.ref 3, Value.ref 8, Value.ref 73, Value.ref 78, Value.ref 132, Value.ref 135, Value.ref 136, Value.ref 138, Value.int (-1)].set 1 (Value.int 1)))) _
          refine s_ek_bk 12 (P := 36) (ls' := [(0, .ref 151), (1, .int a)]) (st' := []) (M' := (((s_M0.set 1 (13, ((List.replicate 60 (Value.int 0)).set 0 (Value.int a)))).set 0 (10, ([Value.ref 1, Value.int 0, Value.ref 2, Value.ref 3, Value.ref 8, Value.ref 73, Value.ref 78, Value.ref 132, Value.ref 135, Value.ref 136, Value.ref 138, Value.int (-1)].set 1 (Value.int 1)))).set 152 (12, ((List.replicate 60 (Value.int 0)).set 0 (Value.int (vp_nar .byte (a).toInt8.toInt32)))))) rfl ?_
          refine s_ek_bk 6 (P := 46) (ls' := [(0, .ref 151), (1, .int a)]) (st' := []) (M' := ((((s_M0.set 1 (13, ((List.replicate 60 (Value.int 0)).set 0 (Value.int a)))).set 0 (10, ([Value.ref 1, Value.int 0, Value.ref 2, Value.ref 3, Value.ref 8, Value.ref 73, Value.ref 78, Value.ref 132, Value.ref 135, Value.ref 136, Value.ref 138, Value.int (-1)].set 1 (Value.int 1)))).set 152 (12, ((List.replicate 60 (Value.int 0)).set 0 (Value.int (vp_nar .byte (a).toInt8.toInt32))))).set 151 (11, ([Value.int 0, Value.ref 152, Value.int 0, Value.int 0, Value.int 0, Value.int 0, Value.int 0, Value.ref 153, Value.ref 154, Value.ref 155, Value.ref 156, Value.ref 157, Value.ref 158, Value.ref 159, Value.int 0, Value.ref 160, Value.ref 161, Value.ref 162, Value.int 0, Value.int 99, Value.ref 163, Value.ref 164, Value.ref 165, Value.int 0, Value.int 0, Value.ref 166, Value.ref 167, Value.ref 168, Value.ref 169, Value.ref 170, Value.int 0, Value.int 0, Value.ref 171, Value.ref 172, Value.ref 173, Value.int 0, Value.int 0, Value.ref 174, Value.ref 175, Value.ref 176, Value.ref 177, Value.ref 178, Value.int 0, Value.ref 179, Value.int 0, Value.ref 180, Value.ref 181, Value.ref 182, Value.ref 183, Value.ref 184].set 2 (Value.int 1))))) rfl ?_
          refine s_ek_bk 2 (P := 50) (ls' := [(0, .ref 151), (1, .int a)]) (st' := [.int 1]) (M' := ((((s_M0.set 1 (13, ((List.replicate 60 (Value.int 0)).set 0 (Value.int a)))).set 0 (10, ([Value.ref 1, Value.int 0, Value.ref 2, Value.ref 3, Value.ref 8, Value.ref 73, Value.ref 78, Value.ref 132, Value.ref 135, Value.ref 136, Value.ref 138, Value.int (-1)].set 1 (Value.int 1)))).set 152 (12, ((List.replicate 60 (Value.int 0)).set 0 (Value.int (vp_nar .byte (a).toInt8.toInt32))))).set 151 (11, ([Value.int 0, Value.ref 152, Value.int 0, Value.int 0, Value.int 0, Value.int 0, Value.int 0, Value.ref 153, Value.ref 154, Value.ref 155, Value.ref 156, Value.ref 157, Value.ref 158, Value.ref 159, Value.int 0, Value.ref 160, Value.ref 161, Value.ref 162, Value.int 0, Value.int 99, Value.ref 163, Value.ref 164, Value.ref 165, Value.int 0, Value.int 0, Value.ref 166, Value.ref 167, Value.ref 168, Value.ref 169, Value.ref 170, Value.int 0, Value.int 0, Value.ref 171, Value.ref 172, Value.ref 173, Value.int 0, Value.int 0, Value.ref 174, Value.ref 175, Value.ref 176, Value.ref 177, Value.ref 178, Value.int 0, Value.ref 179, Value.int 0, Value.ref 180, Value.ref 181, Value.ref 182, Value.ref 183, Value.ref 184].set 2 (Value.int 1))))) rfl ?_
          refine s_ek_ret (o := some (.int 1)) (fun _ => rfl) ?_
          exact rfl
    · replace h2 : ¬ (a.toInt ≤ 255) := h2
      replace h2 : 255 < a.toInt := by omega
      refine s_ek_bk 1 (P := 12) (ls' := [(0, .ref 0), (1, .int a)]) (st' := [.int (-1)]) (M' := s_M0) rfl ?_
      refine s_ek_ret (o := some (.int (-1))) (fun _ => rfl) ?_
      refine ⟨(-1), rfl, ?_⟩
      show s_Ek (s_rows 3 L xs) 1299 s_e183.1 0 [(0, .ref 151), (1, .int a)] [] s_M0 _
      refine s_ek_bk 3 (P := 5) (ls' := [(0, .ref 151), (1, .int a)]) (st' := [.int 255, .int 0, .int a]) (M' := s_M0) rfl ?_
      refine s_ek_call (ν := s_e181.1) (P := 8) (as := [.int a, .int 0, .int 255]) (r := []) (fun _ => rfl) rfl ?_
      show s_Ek (s_rows 3 L xs) 1298 s_e181.1 0 [(0, .int a), (1, .int 0), (2, .int 255)] [] s_M0 _
      refine s_ek_bk 2 (P := 2) (ls' := [(0, .int a), (1, .int 0), (2, .int 255)]) (st' := [.int 0, .int a]) (M' := s_M0) rfl ?_
      refine s_ek_if2 (T := 14) rfl rfl (fun h3 => ?_) (fun h3 => ?_)
      · replace h3 : a.toInt < 0 := h3
        omega
      · replace h3 : ¬ (a.toInt < 0) := h3
        replace h3 : 0 ≤ a.toInt := by omega
        refine s_ek_bk 2 (P := 7) (ls' := [(0, .int a), (1, .int 0), (2, .int 255)]) (st' := [.int 255, .int a]) (M' := s_M0) rfl ?_
        refine s_ek_if2 (T := 14) rfl rfl (fun h4 => ?_) (fun h4 => ?_)
        · replace h4 : 255 < a.toInt := h4
          refine s_ek_bk 1 (P := 15) (ls' := [(0, .int a), (1, .int 0), (2, .int 255)]) (st' := [.int 0]) (M' := s_M0) rfl ?_
          refine s_ek_ret (o := some (.int 0)) (fun _ => rfl) ?_
          show s_Ek (s_rows 3 L xs) 1299 s_e183.1 8 [(0, .ref 151), (1, .int a)] [.int 0] s_M0 _
          refine s_ek_bk 2 (P := 12) (ls' := [(0, .ref 151), (1, .int a)]) (st' := [.int (-1)]) (M' := s_M0) rfl ?_
          refine s_ek_ret (o := some (.int (-1))) (fun _ => rfl) ?_
          exact rfl
        · replace h4 : ¬ (255 < a.toInt) := h4
          replace h4 : a.toInt ≤ 255 := by omega
          omega
set_option maxHeartbeats 20000000 in
set_option maxRecDepth 100000 in
theorem s_op_law (L : Nat) (xs : Nat → Int32) (a : Int32) (b : Int32) : s_Ek (s_rows 3 L xs) 1299 s_e135.1 0 (lv_args 0 [.ref 0, .int a, .int b]) [] s_M0 (fun v M1 => ∃ r : Int32, v = some (.int r) ∧ s_Ek (s_rows 3 L xs) 1299 s_e204.1 0 (lv_args 0 [.ref 151, .int a, .int b]) [] M1 (fun w _ => w = some (.int r))) := by
  show s_Ek (s_rows 3 L xs) 1299 s_e135.1 0 [(0, .ref 0), (1, .int a), (2, .int b)] [] s_M0 _
  refine s_ek_bk 1 (P := 1) (ls' := [(0, .ref 0), (1, .int a), (2, .int b)]) (st' := [.int a]) (M' := s_M0) rfl ?_
  refine s_ek_call (ν := s_e169.1) (P := 4) (as := [.int a]) (r := []) (fun _ => rfl) rfl ?_
  show s_Ek (s_rows 3 L xs) 1298 s_e169.1 0 [(0, .int a)] [] s_M0 _
  refine s_ek_bk 1 (P := 1) (ls' := [(0, .int a)]) (st' := [.int a]) (M' := s_M0) rfl ?_
  refine s_ek_if1 (T := 14) rfl rfl (fun h1 => ?_) (fun h1 => ?_)
  · replace h1 : a.toInt < 0 := h1
    refine s_ek_bk 1 (P := 15) (ls' := [(0, .int a)]) (st' := [.int 0]) (M' := s_M0) rfl ?_
    refine s_ek_ret (o := some (.int 0)) (fun _ => rfl) ?_
    show s_Ek (s_rows 3 L xs) 1299 s_e135.1 4 [(0, .ref 0), (1, .int a), (2, .int b)] [.int 0] s_M0 _
    refine s_ek_bk 2 (P := 15) (ls' := [(0, .ref 0), (1, .int a), (2, .int b)]) (st' := [.int (-1)]) (M' := s_M0) rfl ?_
    refine s_ek_ret (o := some (.int (-1))) (fun _ => rfl) ?_
    refine ⟨(-1), rfl, ?_⟩
    show s_Ek (s_rows 3 L xs) 1299 s_e204.1 0 [(0, .ref 151), (1, .int a), (2, .int b)] [] s_M0 _
    refine s_ek_bk 3 (P := 4) (ls' := [(0, .ref 151), (1, .int a), (2, .int b)]) (st' := [.int 99, .int 0, .int a]) (M' := s_M0) rfl ?_
    refine s_ek_call (ν := s_e181.1) (P := 7) (as := [.int a, .int 0, .int 99]) (r := []) (fun _ => rfl) rfl ?_
    show s_Ek (s_rows 3 L xs) 1298 s_e181.1 0 [(0, .int a), (1, .int 0), (2, .int 99)] [] s_M0 _
    refine s_ek_bk 2 (P := 2) (ls' := [(0, .int a), (1, .int 0), (2, .int 99)]) (st' := [.int 0, .int a]) (M' := s_M0) rfl ?_
    refine s_ek_if2 (T := 14) rfl rfl (fun h2 => ?_) (fun h2 => ?_)
    · replace h2 : a.toInt < 0 := h2
      refine s_ek_bk 1 (P := 15) (ls' := [(0, .int a), (1, .int 0), (2, .int 99)]) (st' := [.int 0]) (M' := s_M0) rfl ?_
      refine s_ek_ret (o := some (.int 0)) (fun _ => rfl) ?_
      show s_Ek (s_rows 3 L xs) 1299 s_e204.1 7 [(0, .ref 151), (1, .int a), (2, .int b)] [.int 0] s_M0 _
      refine s_ek_bk 2 (P := 20) (ls' := [(0, .ref 151), (1, .int a), (2, .int b)]) (st' := [.int (-1)]) (M' := s_M0) rfl ?_
      refine s_ek_ret (o := some (.int (-1))) (fun _ => rfl) ?_
      exact rfl
    · replace h2 : ¬ (a.toInt < 0) := h2
      replace h2 : 0 ≤ a.toInt := by omega
      omega
  · replace h1 : ¬ (a.toInt < 0) := h1
    replace h1 : 0 ≤ a.toInt := by omega
    refine s_ek_bk 2 (P := 7) (ls' := [(0, .int a)]) (st' := [.int 99, .int a]) (M' := s_M0) rfl ?_
    refine s_ek_if2 (T := 14) rfl rfl (fun h2 => ?_) (fun h2 => ?_)
    · replace h2 : 99 < a.toInt := h2
      refine s_ek_bk 1 (P := 15) (ls' := [(0, .int a)]) (st' := [.int 0]) (M' := s_M0) rfl ?_
      refine s_ek_ret (o := some (.int 0)) (fun _ => rfl) ?_
      show s_Ek (s_rows 3 L xs) 1299 s_e135.1 4 [(0, .ref 0), (1, .int a), (2, .int b)] [.int 0] s_M0 _
      refine s_ek_bk 2 (P := 15) (ls' := [(0, .ref 0), (1, .int a), (2, .int b)]) (st' := [.int (-1)]) (M' := s_M0) rfl ?_
      refine s_ek_ret (o := some (.int (-1))) (fun _ => rfl) ?_
      refine ⟨(-1), rfl, ?_⟩
      show s_Ek (s_rows 3 L xs) 1299 s_e204.1 0 [(0, .ref 151), (1, .int a), (2, .int b)] [] s_M0 _
      refine s_ek_bk 3 (P := 4) (ls' := [(0, .ref 151), (1, .int a), (2, .int b)]) (st' := [.int 99, .int 0, .int a]) (M' := s_M0) rfl ?_
      refine s_ek_call (ν := s_e181.1) (P := 7) (as := [.int a, .int 0, .int 99]) (r := []) (fun _ => rfl) rfl ?_
      show s_Ek (s_rows 3 L xs) 1298 s_e181.1 0 [(0, .int a), (1, .int 0), (2, .int 99)] [] s_M0 _
      refine s_ek_bk 2 (P := 2) (ls' := [(0, .int a), (1, .int 0), (2, .int 99)]) (st' := [.int 0, .int a]) (M' := s_M0) rfl ?_
      refine s_ek_if2 (T := 14) rfl rfl (fun h3 => ?_) (fun h3 => ?_)
      · replace h3 : a.toInt < 0 := h3
        omega
      · replace h3 : ¬ (a.toInt < 0) := h3
        replace h3 : 0 ≤ a.toInt := by omega
        refine s_ek_bk 2 (P := 7) (ls' := [(0, .int a), (1, .int 0), (2, .int 99)]) (st' := [.int 99, .int a]) (M' := s_M0) rfl ?_
        refine s_ek_if2 (T := 14) rfl rfl (fun h4 => ?_) (fun h4 => ?_)
        · replace h4 : 99 < a.toInt := h4
          refine s_ek_bk 1 (P := 15) (ls' := [(0, .int a), (1, .int 0), (2, .int 99)]) (st' := [.int 0]) (M' := s_M0) rfl ?_
          refine s_ek_ret (o := some (.int 0)) (fun _ => rfl) ?_
          show s_Ek (s_rows 3 L xs) 1299 s_e204.1 7 [(0, .ref 151), (1, .int a), (2, .int b)] [.int 0] s_M0 _
          refine s_ek_bk 2 (P := 20) (ls' := [(0, .ref 151), (1, .int a), (2, .int b)]) (st' := [.int (-1)]) (M' := s_M0) rfl ?_
          refine s_ek_ret (o := some (.int (-1))) (fun _ => rfl) ?_
          exact rfl
        · replace h4 : ¬ (99 < a.toInt) := h4
          replace h4 : a.toInt ≤ 99 := by omega
          omega
    · replace h2 : ¬ (99 < a.toInt) := h2
      replace h2 : a.toInt ≤ 99 := by omega
      refine s_ek_bk 2 (P := 15) (ls' := [(0, .int a)]) (st' := [.int 1]) (M' := s_M0) rfl ?_
      refine s_ek_ret (o := some (.int 1)) (fun _ => rfl) ?_
      show s_Ek (s_rows 3 L xs) 1299 s_e135.1 4 [(0, .ref 0), (1, .int a), (2, .int b)] [.int 1] s_M0 _
      refine s_ek_bk 2 (P := 8) (ls' := [(0, .ref 0), (1, .int a), (2, .int b)]) (st' := [.int b]) (M' := s_M0) rfl ?_
      refine s_ek_call (ν := s_e170.1) (P := 11) (as := [.int b]) (r := []) (fun _ => rfl) rfl ?_
      show s_Ek (s_rows 3 L xs) 1298 s_e170.1 0 [(0, .int b)] [] s_M0 _
      refine s_ek_bk 1 (P := 1) (ls' := [(0, .int b)]) (st' := [.int b]) (M' := s_M0) rfl ?_
      refine s_ek_if1 (T := 13) rfl rfl (fun h3 => ?_) (fun h3 => ?_)
      · replace h3 : b.toInt < 0 := h3
        refine s_ek_bk 1 (P := 14) (ls' := [(0, .int b)]) (st' := [.int 0]) (M' := s_M0) rfl ?_
        refine s_ek_ret (o := some (.int 0)) (fun _ => rfl) ?_
        show s_Ek (s_rows 3 L xs) 1299 s_e135.1 11 [(0, .ref 0), (1, .int a), (2, .int b)] [.int 0] s_M0 _
        refine s_ek_bk 2 (P := 15) (ls' := [(0, .ref 0), (1, .int a), (2, .int b)]) (st' := [.int (-1)]) (M' := s_M0) rfl ?_
        refine s_ek_ret (o := some (.int (-1))) (fun _ => rfl) ?_
        refine ⟨(-1), rfl, ?_⟩
        show s_Ek (s_rows 3 L xs) 1299 s_e204.1 0 [(0, .ref 151), (1, .int a), (2, .int b)] [] s_M0 _
        refine s_ek_bk 3 (P := 4) (ls' := [(0, .ref 151), (1, .int a), (2, .int b)]) (st' := [.int 99, .int 0, .int a]) (M' := s_M0) rfl ?_
        refine s_ek_call (ν := s_e181.1) (P := 7) (as := [.int a, .int 0, .int 99]) (r := []) (fun _ => rfl) rfl ?_
        show s_Ek (s_rows 3 L xs) 1298 s_e181.1 0 [(0, .int a), (1, .int 0), (2, .int 99)] [] s_M0 _
        refine s_ek_bk 2 (P := 2) (ls' := [(0, .int a), (1, .int 0), (2, .int 99)]) (st' := [.int 0, .int a]) (M' := s_M0) rfl ?_
        refine s_ek_if2 (T := 14) rfl rfl (fun h4 => ?_) (fun h4 => ?_)
        · replace h4 : a.toInt < 0 := h4
          omega
        · replace h4 : ¬ (a.toInt < 0) := h4
          replace h4 : 0 ≤ a.toInt := by omega
          refine s_ek_bk 2 (P := 7) (ls' := [(0, .int a), (1, .int 0), (2, .int 99)]) (st' := [.int 99, .int a]) (M' := s_M0) rfl ?_
          refine s_ek_if2 (T := 14) rfl rfl (fun h5 => ?_) (fun h5 => ?_)
          · replace h5 : 99 < a.toInt := h5
            omega
          · replace h5 : ¬ (99 < a.toInt) := h5
            replace h5 : a.toInt ≤ 99 := by omega
            refine s_ek_bk 2 (P := 15) (ls' := [(0, .int a), (1, .int 0), (2, .int 99)]) (st' := [.int 1]) (M' := s_M0) rfl ?_
            refine s_ek_ret (o := some (.int 1)) (fun _ => rfl) ?_
            show s_Ek (s_rows 3 L xs) 1299 s_e204.1 7 [(0, .ref 151), (1, .int a), (2, .int b)] [.int 1] s_M0 _
            refine s_ek_bk 4 (P := 13) (ls' := [(0, .ref 151), (1, .int a), (2, .int b)]) (st' := [.int 2, .int 0, .int b]) (M' := s_M0) rfl ?_
            refine s_ek_call (ν := s_e181.1) (P := 16) (as := [.int b, .int 0, .int 2]) (r := []) (fun _ => rfl) rfl ?_
            show s_Ek (s_rows 3 L xs) 1298 s_e181.1 0 [(0, .int b), (1, .int 0), (2, .int 2)] [] s_M0 _
            refine s_ek_bk 2 (P := 2) (ls' := [(0, .int b), (1, .int 0), (2, .int 2)]) (st' := [.int 0, .int b]) (M' := s_M0) rfl ?_
            refine s_ek_if2 (T := 14) rfl rfl (fun h6 => ?_) (fun h6 => ?_)
            · replace h6 : b.toInt < 0 := h6
              refine s_ek_bk 1 (P := 15) (ls' := [(0, .int b), (1, .int 0), (2, .int 2)]) (st' := [.int 0]) (M' := s_M0) rfl ?_
              refine s_ek_ret (o := some (.int 0)) (fun _ => rfl) ?_
              show s_Ek (s_rows 3 L xs) 1299 s_e204.1 16 [(0, .ref 151), (1, .int a), (2, .int b)] [.int 0] s_M0 _
              refine s_ek_bk 2 (P := 20) (ls' := [(0, .ref 151), (1, .int a), (2, .int b)]) (st' := [.int (-1)]) (M' := s_M0) rfl ?_
              refine s_ek_ret (o := some (.int (-1))) (fun _ => rfl) ?_
              exact rfl
            · replace h6 : ¬ (b.toInt < 0) := h6
              replace h6 : 0 ≤ b.toInt := by omega
              omega
      · replace h3 : ¬ (b.toInt < 0) := h3
        replace h3 : 0 ≤ b.toInt := by omega
        refine s_ek_bk 2 (P := 6) (ls' := [(0, .int b)]) (st' := [.int 2, .int b]) (M' := s_M0) rfl ?_
        refine s_ek_if2 (T := 13) rfl rfl (fun h4 => ?_) (fun h4 => ?_)
        · replace h4 : 2 < b.toInt := h4
          refine s_ek_bk 1 (P := 14) (ls' := [(0, .int b)]) (st' := [.int 0]) (M' := s_M0) rfl ?_
          refine s_ek_ret (o := some (.int 0)) (fun _ => rfl) ?_
          show s_Ek (s_rows 3 L xs) 1299 s_e135.1 11 [(0, .ref 0), (1, .int a), (2, .int b)] [.int 0] s_M0 _
          refine s_ek_bk 2 (P := 15) (ls' := [(0, .ref 0), (1, .int a), (2, .int b)]) (st' := [.int (-1)]) (M' := s_M0) rfl ?_
          refine s_ek_ret (o := some (.int (-1))) (fun _ => rfl) ?_
          refine ⟨(-1), rfl, ?_⟩
          show s_Ek (s_rows 3 L xs) 1299 s_e204.1 0 [(0, .ref 151), (1, .int a), (2, .int b)] [] s_M0 _
          refine s_ek_bk 3 (P := 4) (ls' := [(0, .ref 151), (1, .int a), (2, .int b)]) (st' := [.int 99, .int 0, .int a]) (M' := s_M0) rfl ?_
          refine s_ek_call (ν := s_e181.1) (P := 7) (as := [.int a, .int 0, .int 99]) (r := []) (fun _ => rfl) rfl ?_
          show s_Ek (s_rows 3 L xs) 1298 s_e181.1 0 [(0, .int a), (1, .int 0), (2, .int 99)] [] s_M0 _
          refine s_ek_bk 2 (P := 2) (ls' := [(0, .int a), (1, .int 0), (2, .int 99)]) (st' := [.int 0, .int a]) (M' := s_M0) rfl ?_
          refine s_ek_if2 (T := 14) rfl rfl (fun h5 => ?_) (fun h5 => ?_)
          · replace h5 : a.toInt < 0 := h5
            omega
          · replace h5 : ¬ (a.toInt < 0) := h5
            replace h5 : 0 ≤ a.toInt := by omega
            refine s_ek_bk 2 (P := 7) (ls' := [(0, .int a), (1, .int 0), (2, .int 99)]) (st' := [.int 99, .int a]) (M' := s_M0) rfl ?_
            refine s_ek_if2 (T := 14) rfl rfl (fun h6 => ?_) (fun h6 => ?_)
            · replace h6 : 99 < a.toInt := h6
              omega
            · replace h6 : ¬ (99 < a.toInt) := h6
              replace h6 : a.toInt ≤ 99 := by omega
              refine s_ek_bk 2 (P := 15) (ls' := [(0, .int a), (1, .int 0), (2, .int 99)]) (st' := [.int 1]) (M' := s_M0) rfl ?_
              refine s_ek_ret (o := some (.int 1)) (fun _ => rfl) ?_
              show s_Ek (s_rows 3 L xs) 1299 s_e204.1 7 [(0, .ref 151), (1, .int a), (2, .int b)] [.int 1] s_M0 _
              refine s_ek_bk 4 (P := 13) (ls' := [(0, .ref 151), (1, .int a), (2, .int b)]) (st' := [.int 2, .int 0, .int b]) (M' := s_M0) rfl ?_
              refine s_ek_call (ν := s_e181.1) (P := 16) (as := [.int b, .int 0, .int 2]) (r := []) (fun _ => rfl) rfl ?_
              show s_Ek (s_rows 3 L xs) 1298 s_e181.1 0 [(0, .int b), (1, .int 0), (2, .int 2)] [] s_M0 _
              refine s_ek_bk 2 (P := 2) (ls' := [(0, .int b), (1, .int 0), (2, .int 2)]) (st' := [.int 0, .int b]) (M' := s_M0) rfl ?_
              refine s_ek_if2 (T := 14) rfl rfl (fun h7 => ?_) (fun h7 => ?_)
              · replace h7 : b.toInt < 0 := h7
                omega
              · replace h7 : ¬ (b.toInt < 0) := h7
                replace h7 : 0 ≤ b.toInt := by omega
                refine s_ek_bk 2 (P := 7) (ls' := [(0, .int b), (1, .int 0), (2, .int 2)]) (st' := [.int 2, .int b]) (M' := s_M0) rfl ?_
                refine s_ek_if2 (T := 14) rfl rfl (fun h8 => ?_) (fun h8 => ?_)
                · replace h8 : 2 < b.toInt := h8
                  refine s_ek_bk 1 (P := 15) (ls' := [(0, .int b), (1, .int 0), (2, .int 2)]) (st' := [.int 0]) (M' := s_M0) rfl ?_
                  refine s_ek_ret (o := some (.int 0)) (fun _ => rfl) ?_
                  show s_Ek (s_rows 3 L xs) 1299 s_e204.1 16 [(0, .ref 151), (1, .int a), (2, .int b)] [.int 0] s_M0 _
                  refine s_ek_bk 2 (P := 20) (ls' := [(0, .ref 151), (1, .int a), (2, .int b)]) (st' := [.int (-1)]) (M' := s_M0) rfl ?_
                  refine s_ek_ret (o := some (.int (-1))) (fun _ => rfl) ?_
                  exact rfl
                · replace h8 : ¬ (2 < b.toInt) := h8
                  replace h8 : b.toInt ≤ 2 := by omega
                  omega
        · replace h4 : ¬ (2 < b.toInt) := h4
          replace h4 : b.toInt ≤ 2 := by omega
          refine s_ek_bk 2 (P := 14) (ls' := [(0, .int b)]) (st' := [.int 1]) (M' := s_M0) rfl ?_
          refine s_ek_ret (o := some (.int 1)) (fun _ => rfl) ?_
          show s_Ek (s_rows 3 L xs) 1299 s_e135.1 11 [(0, .ref 0), (1, .int a), (2, .int b)] [.int 1] s_M0 _
          refine s_ek_bk 12 (P := 43) (ls' := [(0, .ref 0), (1, .int a), (2, .int b)]) (st' := [.int 0, .ref 1, .ref 3]) (M' := s_M0) rfl ?_
          refine s_ek_call (ν := s_e68.1) (P := 46) (as := [.ref 3, .ref 1, .int 0]) (r := []) (fun _ => rfl) rfl ?_
          refine s_ek_run s_El_rows s_cla_0 ?_
          show s_Ek (s_rows 3 L xs) 1299 s_e135.1 46 [(0, .ref 0), (1, .int a), (2, .int b)] [.int 0] s_M0 _
          refine s_ek_bk 4 (P := 52) (ls' := [(3, .int 0), (0, .ref 0), (1, .int a), (2, .int b)]) (st' := []) (M' := s_M0) rfl ?_
          refine s_ek_bk 6 (P := 61) (ls' := [(3, .int 0), (0, .ref 0), (1, .int a), (2, .int b)]) (st' := [.int (-100)]) (M' := s_M0) rfl ?_
          refine s_ek_ret (o := some (.int (-100))) (fun _ => rfl) ?_
          refine ⟨(-100), rfl, ?_⟩
          show s_Ek (s_rows 3 L xs) 1299 s_e204.1 0 [(0, .ref 151), (1, .int a), (2, .int b)] [] s_M0 _
          refine s_ek_bk 3 (P := 4) (ls' := [(0, .ref 151), (1, .int a), (2, .int b)]) (st' := [.int 99, .int 0, .int a]) (M' := s_M0) rfl ?_
          refine s_ek_call (ν := s_e181.1) (P := 7) (as := [.int a, .int 0, .int 99]) (r := []) (fun _ => rfl) rfl ?_
          show s_Ek (s_rows 3 L xs) 1298 s_e181.1 0 [(0, .int a), (1, .int 0), (2, .int 99)] [] s_M0 _
          refine s_ek_bk 2 (P := 2) (ls' := [(0, .int a), (1, .int 0), (2, .int 99)]) (st' := [.int 0, .int a]) (M' := s_M0) rfl ?_
          refine s_ek_if2 (T := 14) rfl rfl (fun h5 => ?_) (fun h5 => ?_)
          · replace h5 : a.toInt < 0 := h5
            omega
          · replace h5 : ¬ (a.toInt < 0) := h5
            replace h5 : 0 ≤ a.toInt := by omega
            refine s_ek_bk 2 (P := 7) (ls' := [(0, .int a), (1, .int 0), (2, .int 99)]) (st' := [.int 99, .int a]) (M' := s_M0) rfl ?_
            refine s_ek_if2 (T := 14) rfl rfl (fun h6 => ?_) (fun h6 => ?_)
            · replace h6 : 99 < a.toInt := h6
              omega
            · replace h6 : ¬ (99 < a.toInt) := h6
              replace h6 : a.toInt ≤ 99 := by omega
              refine s_ek_bk 2 (P := 15) (ls' := [(0, .int a), (1, .int 0), (2, .int 99)]) (st' := [.int 1]) (M' := s_M0) rfl ?_
              refine s_ek_ret (o := some (.int 1)) (fun _ => rfl) ?_
              show s_Ek (s_rows 3 L xs) 1299 s_e204.1 7 [(0, .ref 151), (1, .int a), (2, .int b)] [.int 1] s_M0 _
              refine s_ek_bk 4 (P := 13) (ls' := [(0, .ref 151), (1, .int a), (2, .int b)]) (st' := [.int 2, .int 0, .int b]) (M' := s_M0) rfl ?_
              refine s_ek_call (ν := s_e181.1) (P := 16) (as := [.int b, .int 0, .int 2]) (r := []) (fun _ => rfl) rfl ?_
              show s_Ek (s_rows 3 L xs) 1298 s_e181.1 0 [(0, .int b), (1, .int 0), (2, .int 2)] [] s_M0 _
              refine s_ek_bk 2 (P := 2) (ls' := [(0, .int b), (1, .int 0), (2, .int 2)]) (st' := [.int 0, .int b]) (M' := s_M0) rfl ?_
              refine s_ek_if2 (T := 14) rfl rfl (fun h7 => ?_) (fun h7 => ?_)
              · replace h7 : b.toInt < 0 := h7
                omega
              · replace h7 : ¬ (b.toInt < 0) := h7
                replace h7 : 0 ≤ b.toInt := by omega
                refine s_ek_bk 2 (P := 7) (ls' := [(0, .int b), (1, .int 0), (2, .int 2)]) (st' := [.int 2, .int b]) (M' := s_M0) rfl ?_
                refine s_ek_if2 (T := 14) rfl rfl (fun h8 => ?_) (fun h8 => ?_)
                · replace h8 : 2 < b.toInt := h8
                  omega
                · replace h8 : ¬ (2 < b.toInt) := h8
                  replace h8 : b.toInt ≤ 2 := by omega
                  refine s_ek_bk 2 (P := 15) (ls' := [(0, .int b), (1, .int 0), (2, .int 2)]) (st' := [.int 1]) (M' := s_M0) rfl ?_
                  refine s_ek_ret (o := some (.int 1)) (fun _ => rfl) ?_
                  show s_Ek (s_rows 3 L xs) 1299 s_e204.1 16 [(0, .ref 151), (1, .int a), (2, .int b)] [.int 1] s_M0 _
                  refine s_ek_bk 8 (P := 38) (ls' := [(0, .ref 151), (1, .int a), (2, .int b)]) (st' := [.int 0, .ref 151]) (M' := s_M0) rfl ?_
                  refine s_ek_call (ν := s_e197.1) (P := 41) (as := [.ref 151, .int 0]) (r := []) (fun _ => rfl) rfl ?_
                  refine s_ek_run s_El_rows s_cla_1 ?_
                  show s_Ek (s_rows 3 L xs) 1299 s_e204.1 41 [(0, .ref 151), (1, .int a), (2, .int b)] [.int 0] ((((s_M0.set 151 (11, ([Value.int 0, Value.ref 152, Value.int 0, Value.int 0, Value.int 0, Value.int 0, Value.int 1, Value.ref 153, Value.ref 154, Value.ref 155, Value.ref 156, Value.ref 157, Value.ref 158, Value.ref 159, Value.int 0, Value.ref 160, Value.ref 161, Value.ref 162, Value.int 0, Value.int 99, Value.ref 163, Value.ref 164, Value.ref 165, Value.int 0, Value.int 0, Value.ref 166, Value.ref 167, Value.ref 168, Value.ref 169, Value.ref 170, Value.int 0, Value.int 0, Value.ref 171, Value.ref 172, Value.ref 173, Value.int 0, Value.int 0, Value.ref 174, Value.ref 175, Value.ref 176, Value.ref 177, Value.ref 178, Value.int 0, Value.ref 179, Value.int 0, Value.ref 180, Value.ref 181, Value.ref 182, Value.ref 183, Value.ref 184] : List Value))).set 153 (12, ([Value.int 0, Value.int 0, Value.int 0, Value.int 0, Value.int 0, Value.int 0, Value.int 0, Value.int 0, Value.int 0, Value.int 0, Value.int 0, Value.int 0, Value.int 0, Value.int 0, Value.int 0, Value.int 0, Value.int 0, Value.int 0, Value.int 0, Value.int 0, Value.int 0, Value.int 0, Value.int 0, Value.int 0, Value.int 0, Value.int 0, Value.int 0, Value.int 0, Value.int 0, Value.int 0, Value.int 0, Value.int 0, Value.int 0, Value.int 0, Value.int 0, Value.int 0, Value.int 0, Value.int 0, Value.int 0, Value.int 0, Value.int 0, Value.int 0, Value.int 0, Value.int 0, Value.int 0, Value.int 0, Value.int 0, Value.int 0, Value.int 0, Value.int 0, Value.int 0, Value.int 0, Value.int 0, Value.int 0, Value.int 0, Value.int 0, Value.int 0, Value.int 0, Value.int 0, Value.int 0, Value.int 0, Value.int 0, Value.int 0, Value.int 0, Value.int 0, Value.int 0, Value.int 0, Value.int 0, Value.int 0, Value.int 0, Value.int 0, Value.int 0, Value.int 0, Value.int 0, Value.int 0, Value.int 0, Value.int 0, Value.int 0, Value.int 0, Value.int 0, Value.int 0, Value.int 0, Value.int 0, Value.int 0, Value.int 0, Value.int 0, Value.int 0, Value.int 0, Value.int 0, Value.int 0, Value.int 0, Value.int 0, Value.int 0, Value.int 0, Value.int 0, Value.int 0, Value.int 0, Value.int 0, Value.int 0, Value.int 0, Value.int 0, Value.int 0, Value.int 0, Value.int 0, Value.int 0, Value.int 0, Value.int 0, Value.int 0, Value.int 0, Value.int 0, Value.int 0, Value.int 0, Value.int 0, Value.int 0, Value.int 0, Value.int 0, Value.int 0, Value.int 0, Value.int 0, Value.int 0, Value.int 0, Value.int 0, Value.int 0, Value.int 0, Value.int 0, Value.int 0, Value.int 0, Value.int 0, Value.int 0, Value.int 0, Value.int 0, Value.int 0, Value.int 0, Value.int 0, Value.int 0, Value.int 0, Value.int 0, Value.int 0, Value.int 0, Value.int 0, Value.int 0, Value.int 0, Value.int 0, Value.int 0, Value.int 0, Value.int 0, Value.int 0, Value.int 0, Value.int 0, Value.int 0, Value.int 0, Value.int 0, Value.int 0, Value.int 0, Value.int 0, Value.int 0, Value.int 0, Value.int 0, Value.int 0, Value.int 0, Value.int 0, Value.int 0, Value.int 0, Value.int 0, Value.int 0, Value.int 0, Value.int 0, Value.int 0, Value.int 0, Value.int 0, Value.int 0, Value.int 0, Value.int 0, Value.int 0, Value.int 0, Value.int 0, Value.int 0, Value.int 0, Value.int 0, Value.int 0, Value.int 0, Value.int 0, Value.int 0, Value.int 0, Value.int 0, Value.int 0, Value.int 0, Value.int 0, Value.int 0, Value.int 0, Value.int 0, Value.int 0, Value.int 0, Value.int 0, Value.int 0, Value.int 0, Value.int 0, Value.int 0, Value.int 0, Value.int 0, Value.int 0, Value.int 0, Value.int 0, Value.int 0, Value.int 0, Value.int 0, Value.int 0, Value.int 0, Value.int 0, Value.int 0, Value.int 0, Value.int 0, Value.int 0, Value.int 0, Value.int 0, Value.int 0, Value.int 0, Value.int 0, Value.int 0, Value.int 0, Value.int 0, Value.int 0, Value.int 0, Value.int 0, Value.int 0, Value.int 0, Value.int 0, Value.int 0, Value.int 0, Value.int 0, Value.int 0, Value.int 0, Value.int 0, Value.int 0, Value.int 0, Value.int 0, Value.int 0, Value.int 0, Value.int 0, Value.int 0, Value.int 0, Value.int 0, Value.int 0, Value.int 0, Value.int 0, Value.int 0, Value.int 0, Value.int 0, Value.int 0, Value.int 0, Value.int 0, Value.int 0, Value.int 0, Value.int 0, Value.int 0, Value.int 0, Value.int 0, Value.int 0, Value.int 0, Value.int 0, Value.int 0, Value.int 0, Value.int 0, Value.int 0, Value.int 0, Value.int 0, Value.int 0, Value.int 0, Value.int 0, Value.int 0, Value.int 0, Value.int 0, Value.int 0, Value.int 0, Value.int 0, Value.int 0, Value.int 0, Value.int 0, Value.int 0, Value.int 0, Value.int 0, Value.int 0, Value.int 0, Value.int 0, Value.int 0, Value.int 0, Value.int 0, Value.int 0, Value.int 0, Value.int 0, Value.int 0, Value.int 0, Value.int 0, Value.int 0, Value.int 0, Value.int 0, Value.int 0, Value.int 0, Value.int 0, Value.int 0, Value.int 0, Value.int 0, Value.int 0, Value.int 0, Value.int 0, Value.int 0, Value.int 0, Value.int 0, Value.int 0, Value.int 0, Value.int 0, Value.int 0, Value.int 0, Value.int 0, Value.int 0, Value.int 0, Value.int 0, Value.int 0, Value.int 0, Value.int 0, Value.int 0, Value.int 0, Value.int 0, Value.int 0, Value.int 0, Value.int 0, Value.int 0, Value.int 0, Value.int 0, Value.int 0, Value.int 0, Value.int 0, Value.int 0, Value.int 0, Value.int 0, Value.int 0, Value.int 0, Value.int 0, Value.int 0, Value.int 0, Value.int 0, Value.int 0, Value.int 0, Value.int 0, Value.int 0, Value.int 0, Value.int 0, Value.int 0, Value.int 0, Value.int 0, Value.int 0, Value.int 0, Value.int 0, Value.int 0, Value.int 0, Value.int 0, Value.int 0, Value.int 0, Value.int 0, Value.int 0, Value.int 0, Value.int 0, Value.int 0, Value.int 0, Value.int 0, Value.int 0, Value.int 0, Value.int 0, Value.int 0, Value.int 0, Value.int 0, Value.int 0, Value.int 0, Value.int 0, Value.int 0, Value.int 0, Value.int 0, Value.int 0, Value.int 0, Value.int 0, Value.int 0, Value.int 0, Value.int 0, Value.int 0, Value.int 0, Value.int 0, Value.int 0, Value.int 0, Value.int 0, Value.int 0, Value.int 0, Value.int 0, Value.int 0, Value.int 0, Value.int 0, Value.int 0, Value.int 0, Value.int 0, Value.int 0, Value.int 0, Value.int 0, Value.int 0, Value.int 0, Value.int 0, Value.int 0, Value.int 0, Value.int 0, Value.int 0, Value.int 0, Value.int 0, Value.int 0, Value.int 0, Value.int 0, Value.int 0, Value.int 0, Value.int 0, Value.int 0, Value.int 0, Value.int 0, Value.int 0, Value.int 0, Value.int 0, Value.int 0, Value.int 0, Value.int 0, Value.int 0, Value.int 0, Value.int 0, Value.int 0, Value.int 0, Value.int 0, Value.int 0, Value.int 0, Value.int 0, Value.int 0, Value.int 0, Value.int 0, Value.int 0, Value.int 0, Value.int 0, Value.int 0, Value.int 0, Value.int 0, Value.int 0, Value.int 0, Value.int 0, Value.int 0, Value.int 0, Value.int 0, Value.int 0, Value.int 0, Value.int 0, Value.int 0, Value.int 0, Value.int 0, Value.int 0, Value.int 0, Value.int 0, Value.int 0, Value.int 0, Value.int 0, Value.int 0, Value.int 0, Value.int 0, Value.int 0, Value.int 0, Value.int 0, Value.int 0, Value.int 0, Value.int 0, Value.int 0, Value.int 0, Value.int 0, Value.int 0, Value.int 0, Value.int 0, Value.int 0, Value.int 0, Value.int 0, Value.int 0, Value.int 0, Value.int 0, Value.int 0, Value.int 0, Value.int 0, Value.int 0, Value.int 0, Value.int 0, Value.int 0, Value.int 0, Value.int 0, Value.int 0, Value.int 0, Value.int 0, Value.int 0, Value.int 0, Value.int 0, Value.int 0, Value.int 0, Value.int 0, Value.int 0, Value.int 0, Value.int 0, Value.int 0, Value.int 0, Value.int 0, Value.int 0, Value.int 0, Value.int 0, Value.int 0, Value.int 0, Value.int 0, Value.int 0, Value.int 0, Value.int 0, Value.int 0, Value.int 0, Value.int 0, Value.int 0, Value.int 0, Value.int 0, Value.int 0, Value.int 0, Value.int 0, Value.int 0, Value.int 0, Value.int 0, Value.int 0, Value.int 0, Value.int 0, Value.int 0, Value.int 0, Value.int 0, Value.int 0, Value.int 0, Value.int 0, Value.int 0, Value.int 0, Value.int 0, Value.int 0, Value.int 0, Value.int 0, Value.int 0, Value.int 0, Value.int 0, Value.int 0, Value.int 0, Value.int 0, Value.int 0, Value.int 0, Value.int 0, Value.int 0, Value.int 0, Value.int 0, Value.int 0, Value.int 0, Value.int 0, Value.int 0, Value.int 0, Value.int 0, Value.int 0, Value.int 0, Value.int 0, Value.int 0, Value.int 0, Value.int 0, Value.int 0, Value.int 0, Value.int 0, Value.int 0, Value.int 0, Value.int 0, Value.int 0, Value.int 0, Value.int 0, Value.int 0, Value.int 0, Value.int 0, Value.int 0, Value.int 0, Value.int 0, Value.int 0, Value.int 0, Value.int 0, Value.int 0, Value.int 0, Value.int 0, Value.int 0, Value.int 0, Value.int 0, Value.int 0, Value.int 0, Value.int 0, Value.int 0, Value.int 0, Value.int 0, Value.int 0, Value.int 0, Value.int 0, Value.int 0, Value.int 0, Value.int 0, Value.int 0, Value.int 0, Value.int 0, Value.int 0, Value.int 0, Value.int 0, Value.int 0, Value.int 0, Value.int 0, Value.int 0, Value.int 0, Value.int 0, Value.int 0, Value.int 0, Value.int 0, Value.int 0, Value.int 0, Value.int 0, Value.int 0, Value.int 0, Value.int 0, Value.int 0, Value.int 0, Value.int 0, Value.int 0, Value.int 0, Value.int 0, Value.int 0, Value.int 0, Value.int 0, Value.int 0, Value.int 0, Value.int 0, Value.int 0, Value.int 0, Value.int 0, Value.int 0, Value.int 0, Value.int 0, Value.int 0, Value.int 0, Value.int 0, Value.int 0, Value.int 0, Value.int 0, Value.int 0, Value.int 0, Value.int 0, Value.int 0, Value.int 0, Value.int 0, Value.int 0, Value.int 0, Value.int 0, Value.int 0, Value.int 0, Value.int 0, Value.int 0, Value.int 0, Value.int 0, Value.int 0, Value.int 0, Value.int 0, Value.int 0, Value.int 0, Value.int 0, Value.int 0, Value.int 0, Value.int 0, Value.int 0, Value.int 0, Value.int 0, Value.int 0, Value.int 0, Value.int 0, Value.int 0, Value.int 0, Value.int 0, Value.int 0, Value.int 0, Value.int 0, Value.int 0, Value.int 0, Value.int 0, Value.int 0, Value.int 0, Value.int 0, Value.int 0, Value.int 0, Value.int 0, Value.int 0, Value.int 0, Value.int 0, Value.int 0, Value.int 0, Value.int 0, Value.int 0, Value.int 0, Value.int 0, Value.int 0, Value.int 0, Value.int 0, Value.int 0, Value.int 0, Value.int 0, Value.int 0, Value.int 0, Value.int 0, Value.int 0, Value.int 0, Value.int 0, Value.int 0, Value.int 0, Value.int 0, Value.int 0, Value.int 0, Value.int 0, Value.int 0, Value.int 0, Value.int 0, Value.int 0, Value.int 0, Value.int 0, Value.int 0, Value.int 0, Value.int 0, Value.int 0, Value.int 0, Value.int 0, Value.int 0, Value.int 0, Value.int 0, Value.int 0, Value.int 0, Value.int 0, Value.int 0, Value.int 0, Value.int 0, Value.int 0, Value.int 0, Value.int 0, Value.int 0, Value.int 0, Value.int 0, Value.int 0, Value.int 0, Value.int 0, Value.int 0, Value.int 0, Value.int 0, Value.int 0, Value.int 0, Value.int 0, Value.int 0, Value.int 0, Value.int 0, Value.int 0, Value.int 0, Value.int 0, Value.int 0, Value.int 0, Value.int 0, Value.int 0, Value.int 0, Value.int 0, Value.int 0, Value.int 0, Value.int 0, Value.int 0, Value.int 0, Value.int 0, Value.int 0, Value.int 0, Value.int 0, Value.int 0, Value.int 0, Value.int 0, Value.int 0, Value.int 0, Value.int 0, Value.int 0, Value.int 0, Value.int 0, Value.int 0, Value.int 0, Value.int 0, Value.int 0, Value.int 0, Value.int 0, Value.int 0, Value.int 0, Value.int 0, Value.int 0, Value.int 0, Value.int 0, Value.int 0, Value.int 0, Value.int 0, Value.int 0, Value.int 0, Value.int 0, Value.int 0, Value.int 0, Value.int 0, Value.int 0, Value.int 0, Value.int 0, Value.int 0, Value.int 0, Value.int 0, Value.int 0, Value.int 0, Value.int 0, Value.int 0, Value.int 0, Value.int 0, Value.int 0, Value.int 0, Value.int 0, Value.int 0, Value.int 0, Value.int 0, Value.int 0, Value.int 0, Value.int 0, Value.int 0, Value.int 0, Value.int 0, Value.int 0, Value.int 0, Value.int 0, Value.int 0, Value.int 0, Value.int 0, Value.int 0, Value.int 0, Value.int 0, Value.int 0, Value.int 0, Value.int 0, Value.int 0, Value.int 0, Value.int 0, Value.int 0, Value.int 0, Value.int 0, Value.int 0, Value.int 0, Value.int 0, Value.int 0, Value.int 0, Value.int 0, Value.int 0, Value.int 0, Value.int 0, Value.int 0, Value.int 0, Value.int 0, Value.int 0, Value.int 0, Value.int 0, Value.int 0, Value.int 0, Value.int 0, Value.int 0, Value.int 0, Value.int 0, Value.int 0, Value.int 0, Value.int 0, Value.int 0, Value.int 0, Value.int 0, Value.int 0, Value.int 0, Value.int 0, Value.int 0, Value.int 0, Value.int 0, Value.int 0, Value.int 0, Value.int 0, Value.int 0, Value.int 0, Value.int 0, Value.int 0, Value.int 0, Value.int 0, Value.int 0, Value.int 0, Value.int 0, Value.int 0, Value.int 0, Value.int 0, Value.int 0, Value.int 0, Value.int 0, Value.int 0, Value.int 0, Value.int 0, Value.int 0, Value.int 0, Value.int 0, Value.int 0, Value.int 0, Value.int 0, Value.int 0, Value.int 0, Value.int 0, Value.int 0, Value.int 0, Value.int 0, Value.int 0, Value.int 0, Value.int 0, Value.int 0, Value.int 0, Value.int 0, Value.int 0, Value.int 0, Value.int 0, Value.int 0, Value.int 0, Value.int 0, Value.int 0, Value.int 0, Value.int 0, Value.int 0, Value.int 0, Value.int 0, Value.int 0, Value.int 0, Value.int 0, Value.int 0, Value.int 0, Value.int 0, Value.int 0, Value.int 0, Value.int 0, Value.int 0, Value.int 0, Value.int 0, Value.int 0, Value.int 0, Value.int 0, Value.int 0, Value.int 0, Value.int 0, Value.int 0, Value.int 0, Value.int 0, Value.int 0, Value.int 0, Value.int 0, Value.int 0, Value.int 0, Value.int 0, Value.int 0, Value.int 0, Value.int 0, Value.int 0, Value.int 0, Value.int 0, Value.int 0, Value.int 0, Value.int 0, Value.int 0, Value.int 0, Value.int 0, Value.int 0, Value.int 0, Value.int 0, Value.int 0, Value.int 0, Value.int 0, Value.int 0, Value.int 0, Value.int 0, Value.int 0, Value.int 0, Value.int 0, Value.int 0, Value.int 0, Value.int 0, Value.int 0, Value.int 0, Value.int 0, Value.int 0, Value.int 0, Value.int 0, Value.int 0, Value.int 0, Value.int 0, Value.int 0, Value.int 0, Value.int 0, Value.int 0, Value.int 0, Value.int 0, Value.int 0, Value.int 0, Value.int 0, Value.int 0, Value.int 0, Value.int 0, Value.int 0, Value.int 0, Value.int 0, Value.int 0, Value.int 0, Value.int 0, Value.int 0, Value.int 0, Value.int 0, Value.int 0, Value.int 0, Value.int 0, Value.int 0, Value.int 0, Value.int 0, Value.int 0, Value.int 0, Value.int 0, Value.int 0, Value.int 0, Value.int 0, Value.int 0, Value.int 0, Value.int 0, Value.int 0, Value.int 0, Value.int 0, Value.int 0, Value.int 0, Value.int 0, Value.int 0, Value.int 0, Value.int 0, Value.int 0, Value.int 0, Value.int 0, Value.int 0, Value.int 0, Value.int 0, Value.int 0, Value.int 0, Value.int 0, Value.int 0, Value.int 0, Value.int 0, Value.int 0, Value.int 0, Value.int 0, Value.int 0, Value.int 0, Value.int 0, Value.int 0, Value.int 0, Value.int 0, Value.int 0, Value.int 0, Value.int 0, Value.int 0, Value.int 0, Value.int 0, Value.int 0, Value.int 0, Value.int 0, Value.int 0, Value.int 0, Value.int 0, Value.int 0, Value.int 0, Value.int 0, Value.int 0, Value.int 0, Value.int 0, Value.int 0, Value.int 0, Value.int 0, Value.int 0, Value.int 0, Value.int 0, Value.int 0, Value.int 0, Value.int 0, Value.int 0, Value.int 0, Value.int 0, Value.int 0, Value.int 0, Value.int 0, Value.int 0, Value.int 0, Value.int 0, Value.int 0, Value.int 0, Value.int 0, Value.int 0, Value.int 0, Value.int 0, Value.int 0, Value.int 0, Value.int 0, Value.int 0, Value.int 0, Value.int 0, Value.int 0, Value.int 0, Value.int 0, Value.int 0, Value.int 0, Value.int 0, Value.int 0, Value.int 0, Value.int 0, Value.int 0, Value.int 0, Value.int 0, Value.int 0, Value.int 0, Value.int 0, Value.int 0, Value.int 0, Value.int 0, Value.int 0, Value.int 0, Value.int 0, Value.int 0, Value.int 0, Value.int 0, Value.int 0, Value.int 0, Value.int 0, Value.int 0, Value.int 0, Value.int 0, Value.int 0, Value.int 0, Value.int 0, Value.int 0, Value.int 0, Value.int 0, Value.int 0, Value.int 0, Value.int 0, Value.int 0, Value.int 0, Value.int 0, Value.int 0, Value.int 0, Value.int 0, Value.int 0, Value.int 0, Value.int 0, Value.int 0, Value.int 0, Value.int 0, Value.int 0, Value.int 0, Value.int 0, Value.int 0, Value.int 0, Value.int 0, Value.int 0, Value.int 0, Value.int 0, Value.int 0, Value.int 0, Value.int 0, Value.int 0, Value.int 0, Value.int 0, Value.int 0, Value.int 0, Value.int 0, Value.int 0, Value.int 0, Value.int 0, Value.int 0, Value.int 0, Value.int 0, Value.int 0, Value.int 0, Value.int 0, Value.int 0, Value.int 0, Value.int 0, Value.int 0, Value.int 0, Value.int 0, Value.int 0, Value.int 0, Value.int 0, Value.int 0, Value.int 0, Value.int 0, Value.int 0, Value.int 0, Value.int 0, Value.int 0, Value.int 0, Value.int 0, Value.int 0, Value.int 0, Value.int 0, Value.int 0, Value.int 0, Value.int 0, Value.int 0, Value.int 0, Value.int 0, Value.int 0, Value.int 0, Value.int 0, Value.int 0, Value.int 0, Value.int 0, Value.int 0, Value.int 0, Value.int 0, Value.int 0, Value.int 0, Value.int 0, Value.int 0, Value.int 0, Value.int 0, Value.int 0, Value.int 0, Value.int 0, Value.int 0, Value.int 0, Value.int 0, Value.int 0, Value.int 0, Value.int 0, Value.int 0, Value.int 0, Value.int 0, Value.int 0, Value.int 0, Value.int 0, Value.int 0, Value.int 0, Value.int 0, Value.int 0, Value.int 0, Value.int 0, Value.int 0, Value.int 0, Value.int 0, Value.int 0, Value.int 0, Value.int 0, Value.int 0, Value.int 0, Value.int 0, Value.int 0, Value.int 0, Value.int 0, Value.int 0, Value.int 0, Value.int 0, Value.int 0, Value.int 0, Value.int 0, Value.int 0, Value.int 0, Value.int 0, Value.int 0, Value.int 0, Value.int 0, Value.int 0, Value.int 0, Value.int 0, Value.int 0, Value.int 0, Value.int 0, Value.int 0, Value.int 0, Value.int 0, Value.int 0, Value.int 0, Value.int 0, Value.int 0, Value.int 0, Value.int 0, Value.int 0, Value.int 0, Value.int 0, Value.int 0, Value.int 0, Value.int 0, Value.int 0, Value.int 0, Value.int 0, Value.int 0, Value.int 0, Value.int 1, Value.int 0, Value.int 0, Value.int 0, Value.int 0, Value.int 0, Value.int 0, Value.int 0, Value.int 0, Value.int 0, Value.int 0, Value.int 0, Value.int 0, Value.int 0, Value.int 0, Value.int 0, Value.int 0, Value.int 0, Value.int 0, Value.int 0, Value.int 0, Value.int 0, Value.int 0, Value.int 0, Value.int 0, Value.int 0, Value.int 0, Value.int 0, Value.int 0, Value.int 0, Value.int 0, Value.int 0, Value.int 0, Value.int 0, Value.int 0, Value.int 0, Value.int 0, Value.int 0, Value.int 0, Value.int 0, Value.int 0, Value.int 0, Value.int 0, Value.int 0, Value.int 0, Value.int 0, Value.int 0, Value.int 0, Value.int 0, Value.int 0, Value.int 0, Value.int 0, Value.int 0, Value.int 0, Value.int 0, Value.int 0, Value.int 0, Value.int 0, Value.int 0, Value.int 0, Value.int 0, Value.int 0, Value.int 0, Value.int 0, Value.int 0, Value.int 0, Value.int 0, Value.int 0, Value.int 0, Value.int 0, Value.int 0, Value.int 0, Value.int 0, Value.int 0, Value.int 0, Value.int 0, Value.int 0, Value.int 0, Value.int 0, Value.int 0, Value.int 0, Value.int 0, Value.int 0, Value.int 0, Value.int 0, Value.int 0, Value.int 0, Value.int 0, Value.int 0, Value.int 0, Value.int 0, Value.int 0, Value.int 0, Value.int 0, Value.int 0, Value.int 0, Value.int 0, Value.int 0, Value.int 0, Value.int 0, Value.int 0, Value.int 0, Value.int 0, Value.int 0, Value.int 0, Value.int 0, Value.int 0, Value.int 0, Value.int 0, Value.int 0, Value.int 0, Value.int 0, Value.int 0, Value.int 0, Value.int 0, Value.int 0, Value.int 0, Value.int 0, Value.int 0, Value.int 0, Value.int 0, Value.int 0, Value.int 0, Value.int 0, Value.int 0, Value.int 0, Value.int 0, Value.int 0, Value.int 0, Value.int 0] : List Value))).set 155 (13, ([Value.int 0, Value.int 0, Value.int 0, Value.int 0, Value.int 0, Value.int 0, Value.int 0, Value.int 0, Value.int 0, Value.int 0, Value.int 1] : List Value))).set 157 (15, ([Value.int 0, Value.int 0, Value.int 0, Value.int 0, Value.int 0, Value.int 0, Value.int 0, Value.int 0, Value.int 0, Value.int 0, Value.int 0, Value.int 0, Value.int 0, Value.int 0, Value.int 0, Value.int 0, Value.int 0, Value.int 0, Value.int 0, Value.int 0, Value.int 0, Value.int 0, Value.int 0, Value.int 0, Value.int 0, Value.int 0, Value.int 0, Value.int 0, Value.int 0, Value.int 0, Value.int 0, Value.int 0, Value.int 0, Value.int 0, Value.int 0, Value.int 0, Value.int 0, Value.int 0, Value.int 0, Value.int 0, Value.int 0, Value.int 0, Value.int 0, Value.int 0, Value.int 0, Value.int 0, Value.int 0, Value.int 0, Value.int 0, Value.int 0, Value.int 0, Value.int 0, Value.int 0, Value.int 0, Value.int 0, Value.int 0, Value.int 0, Value.int 0, Value.int 0, Value.int 0, Value.int 0, Value.int 0, Value.int 0, Value.int 0, Value.int 0, Value.int 0, Value.int 0, Value.int 0, Value.int 0, Value.int 0, Value.int 0, Value.int 0, Value.int 0, Value.int 0, Value.int 0, Value.int 0, Value.int 0, Value.int 0, Value.int 0, Value.int 0, Value.int 0, Value.int 0, Value.int 0, Value.int 0, Value.int 0, Value.int 0, Value.int 0, Value.int 0, Value.int 0, Value.int 0, Value.int 0, Value.int 0, Value.int 0, Value.int 0, Value.int 0, Value.int 0, Value.int 0, Value.int 0, Value.int 0, Value.int 0, Value.int 0, Value.int 0, Value.int 0, Value.int 0, Value.int 0, Value.int 0, Value.int 0, Value.int 0, Value.int 0, Value.int 0, Value.int 0, Value.int 0, Value.int 0, Value.int 0, Value.int 0, Value.int 0, Value.int 0, Value.int 0, Value.int 0, Value.int 0, Value.int 0, Value.int 0, Value.int 0, Value.int 0, Value.int 0, Value.int 0, Value.int 0, Value.int 0, Value.int 0, Value.int 0, Value.int 0, Value.int 0, Value.int 0, Value.int 0, Value.int 0, Value.int 0, Value.int 0, Value.int 0, Value.int 0, Value.int 0, Value.int 0, Value.int 0, Value.int 0, Value.int 0, Value.int 0, Value.int 0, Value.int 0, Value.int 0, Value.int 0, Value.int 0, Value.int 0, Value.int 0, Value.int 0, Value.int 0, Value.int 0, Value.int 0, Value.int 0, Value.int 0, Value.int 0, Value.int 0, Value.int 0, Value.int 0, Value.int 0, Value.int 0, Value.int 0, Value.int 0, Value.int 0, Value.int 0, Value.int 0, Value.int 0, Value.int 0, Value.int 0, Value.int 0, Value.int 0, Value.int 0, Value.int 0, Value.int 0, Value.int 0, Value.int 0, Value.int 0, Value.int 0, Value.int 0, Value.int 0, Value.int 0, Value.int 0, Value.int 0, Value.int 0, Value.int 0, Value.int 0, Value.int 0, Value.int 0, Value.int 0, Value.int 0, Value.int 0, Value.int 0, Value.int 0, Value.int 0, Value.int 0, Value.int 0, Value.int 0, Value.int 0, Value.int 0, Value.int 0, Value.int 0, Value.int 0, Value.int 0, Value.int 0, Value.int 0, Value.int 0, Value.int 0, Value.int 0, Value.int 0, Value.int 0, Value.int 0, Value.int 0, Value.int 0, Value.int 0, Value.int 0, Value.int 0, Value.int 0, Value.int 0, Value.int 0, Value.int 0, Value.int 0, Value.int 0, Value.int 0, Value.int 0, Value.int 0, Value.int 0, Value.int 0, Value.int 0, Value.int 0, Value.int 0, Value.int 0, Value.int 0, Value.int 0, Value.int 0, Value.int 0, Value.int 0, Value.int 0, Value.int 0, Value.int 0, Value.int 0, Value.int 0, Value.int 0, Value.int 0, Value.int 0, Value.int 0, Value.int 0, Value.int 0, Value.int 0, Value.int 0, Value.int 0, Value.int 0, Value.int 0, Value.int 0, Value.int 0, Value.int 0, Value.int 0, Value.int 0, Value.int 0, Value.int 0, Value.int 0, Value.int 0, Value.int 0, Value.int 0, Value.int 0, Value.int 0, Value.int 0, Value.int 0, Value.int 0, Value.int 0, Value.int 0, Value.int 0, Value.int 0, Value.int 0, Value.int 0, Value.int 0, Value.int 0, Value.int 0, Value.int 0, Value.int 0, Value.int 0, Value.int 0, Value.int 0, Value.int 0, Value.int 0, Value.int 0, Value.int 0, Value.int 0, Value.int 0, Value.int 0, Value.int 0, Value.int 0, Value.int 0, Value.int 0, Value.int 0, Value.int 0, Value.int 0, Value.int 0, Value.int 0, Value.int 0, Value.int 0, Value.int 0, Value.int 0, Value.int 0, Value.int 0, Value.int 0, Value.int 0, Value.int 0, Value.int 0, Value.int 0, Value.int 0, Value.int 0, Value.int 0, Value.int 0, Value.int 0, Value.int 0, Value.int 0, Value.int 0, Value.int 0, Value.int 0, Value.int 0, Value.int 0, Value.int 0, Value.int 0, Value.int 0, Value.int 0, Value.int 0, Value.int 0, Value.int 0, Value.int 0, Value.int 0, Value.int 0, Value.int 0, Value.int 0, Value.int 0, Value.int 0, Value.int 0, Value.int 0, Value.int 0, Value.int 0, Value.int 0, Value.int 0, Value.int 0, Value.int 0, Value.int 0, Value.int 0, Value.int 0, Value.int 0, Value.int 0, Value.int 0, Value.int 0, Value.int 0, Value.int 0, Value.int 0, Value.int 0, Value.int 0, Value.int 0, Value.int 0, Value.int 0, Value.int 0, Value.int 0, Value.int 0, Value.int 0, Value.int 0, Value.int 0, Value.int 0, Value.int 0, Value.int 0, Value.int 0, Value.int 0, Value.int 0, Value.int 0, Value.int 0, Value.int 0, Value.int 0, Value.int 0, Value.int 0, Value.int 0, Value.int 0, Value.int 0, Value.int 0, Value.int 0, Value.int 0, Value.int 0, Value.int 0, Value.int 0, Value.int 0, Value.int 0, Value.int 0, Value.int 0, Value.int 0, Value.int 0, Value.int 0, Value.int 0, Value.int 0, Value.int 0, Value.int 0, Value.int 0, Value.int 0, Value.int 0, Value.int 0, Value.int 0, Value.int 0, Value.int 0, Value.int 0, Value.int 0, Value.int 0, Value.int 0, Value.int 0, Value.int 0, Value.int 0, Value.int 0, Value.int 0, Value.int 0, Value.int 0, Value.int 0, Value.int 0, Value.int 0, Value.int 0, Value.int 0, Value.int 0, Value.int 0, Value.int 0, Value.int 0, Value.int 0, Value.int 0, Value.int 0, Value.int 0, Value.int 0, Value.int 0, Value.int 0, Value.int 0, Value.int 0, Value.int 0, Value.int 0, Value.int 0, Value.int 0, Value.int 0, Value.int 0, Value.int 0, Value.int 0, Value.int 0, Value.int 0, Value.int 0, Value.int 0, Value.int 0, Value.int 0, Value.int 0, Value.int 0, Value.int 0, Value.int 0, Value.int 0, Value.int 0, Value.int 0, Value.int 0, Value.int 0, Value.int 0, Value.int 0, Value.int 0, Value.int 0, Value.int 0, Value.int 0, Value.int 0, Value.int 0, Value.int 0, Value.int 0, Value.int 0, Value.int 0, Value.int 0, Value.int 0, Value.int 0, Value.int 0, Value.int 0, Value.int 0, Value.int 0, Value.int 0, Value.int 0, Value.int 0, Value.int 0, Value.int 0, Value.int 0, Value.int 0, Value.int 0, Value.int 0, Value.int 0, Value.int 0, Value.int 0, Value.int 0, Value.int 0, Value.int 0, Value.int 0, Value.int 0, Value.int 0, Value.int 0, Value.int 0, Value.int 0, Value.int 0, Value.int 0, Value.int 0, Value.int 0, Value.int 0, Value.int 0, Value.int 0, Value.int 0, Value.int 0, Value.int 0, Value.int 0, Value.int 0, Value.int 0, Value.int 0, Value.int 0, Value.int 0, Value.int 0, Value.int 0, Value.int 0, Value.int 0, Value.int 0, Value.int 0, Value.int 0, Value.int 0, Value.int 0, Value.int 0, Value.int 0, Value.int 0, Value.int 0, Value.int 0, Value.int 0, Value.int 0, Value.int 0, Value.int 0, Value.int 0, Value.int 0, Value.int 0, Value.int 0, Value.int 0, Value.int 0, Value.int 0, Value.int 0, Value.int 0, Value.int 0, Value.int 0, Value.int 0, Value.int 0, Value.int 0, Value.int 0, Value.int 0, Value.int 0, Value.int 0, Value.int 0, Value.int 0, Value.int 0, Value.int 0, Value.int 0, Value.int 0, Value.int 0, Value.int 0, Value.int 0, Value.int 0, Value.int 0, Value.int 0, Value.int 0, Value.int 0, Value.int 0, Value.int 0, Value.int 0, Value.int 0, Value.int 0, Value.int 0, Value.int 0, Value.int 0, Value.int 0, Value.int 0, Value.int 0, Value.int 0, Value.int 0, Value.int 0, Value.int 0, Value.int 0, Value.int 0, Value.int 0, Value.int 0, Value.int 0, Value.int 0, Value.int 0, Value.int 0, Value.int 0, Value.int 0, Value.int 0, Value.int 0, Value.int 0, Value.int 0, Value.int 0, Value.int 0, Value.int 0, Value.int 0, Value.int 0, Value.int 0, Value.int 0, Value.int 0, Value.int 0, Value.int 0, Value.int 0, Value.int 0, Value.int 0, Value.int 0, Value.int 0, Value.int 0, Value.int 0, Value.int 1, Value.int 0, Value.int 0, Value.int 0, Value.int 0, Value.int 0, Value.int 0, Value.int 0, Value.int 0, Value.int 0, Value.int 0, Value.int 0, Value.int 0, Value.int 0, Value.int 0, Value.int 0, Value.int 0, Value.int 0, Value.int 0, Value.int 0, Value.int 0, Value.int 0, Value.int 0, Value.int 0, Value.int 0, Value.int 0, Value.int 0, Value.int 0, Value.int 0, Value.int 0, Value.int 0, Value.int 0, Value.int 0, Value.int 0, Value.int 0, Value.int 0, Value.int 0, Value.int 0, Value.int 0, Value.int 0, Value.int 0, Value.int 0, Value.int 0, Value.int 0, Value.int 0, Value.int 0, Value.int 0, Value.int 0, Value.int 0, Value.int 0, Value.int 0, Value.int 0, Value.int 0, Value.int 0, Value.int 0, Value.int 0, Value.int 0, Value.int 0, Value.int 0, Value.int 0, Value.int 0] : List Value))) _
                  refine s_ek_bk 7 (P := 60) (ls' := [(3, .int 0), (0, .ref 151), (1, .int a), (2, .int b)]) (st' := [.int (-100)]) (M' := ((((s_M0.set 151 (11, ([Value.int 0, Value.ref 152, Value.int 0, Value.int 0, Value.int 0, Value.int 0, Value.int 1, Value.ref 153, Value.ref 154, Value.ref 155, Value.ref 156, Value.ref 157, Value.ref 158, Value.ref 159, Value.int 0, Value.ref 160, Value.ref 161, Value.ref 162, Value.int 0, Value.int 99, Value.ref 163, Value.ref 164, Value.ref 165, Value.int 0, Value.int 0, Value.ref 166, Value.ref 167, Value.ref 168, Value.ref 169, Value.ref 170, Value.int 0, Value.int 0, Value.ref 171, Value.ref 172, Value.ref 173, Value.int 0, Value.int 0, Value.ref 174, Value.ref 175, Value.ref 176, Value.ref 177, Value.ref 178, Value.int 0, Value.ref 179, Value.int 0, Value.ref 180, Value.ref 181, Value.ref 182, Value.ref 183, Value.ref 184] : List Value))).set 153 (12, ([Value.int 0, Value.int 0, Value.int 0, Value.int 0, Value.int 0, Value.int 0, Value.int 0, Value.int 0, Value.int 0, Value.int 0, Value.int 0, Value.int 0, Value.int 0, Value.int 0, Value.int 0, Value.int 0, Value.int 0, Value.int 0, Value.int 0, Value.int 0, Value.int 0, Value.int 0, Value.int 0, Value.int 0, Value.int 0, Value.int 0, Value.int 0, Value.int 0, Value.int 0, Value.int 0, Value.int 0, Value.int 0, Value.int 0, Value.int 0, Value.int 0, Value.int 0, Value.int 0, Value.int 0, Value.int 0, Value.int 0, Value.int 0, Value.int 0, Value.int 0, Value.int 0, Value.int 0, Value.int 0, Value.int 0, Value.int 0, Value.int 0, Value.int 0, Value.int 0, Value.int 0, Value.int 0, Value.int 0, Value.int 0, Value.int 0, Value.int 0, Value.int 0, Value.int 0, Value.int 0, Value.int 0, Value.int 0, Value.int 0, Value.int 0, Value.int 0, Value.int 0, Value.int 0, Value.int 0, Value.int 0, Value.int 0, Value.int 0, Value.int 0, Value.int 0, Value.int 0, Value.int 0, Value.int 0, Value.int 0, Value.int 0, Value.int 0, Value.int 0, Value.int 0, Value.int 0, Value.int 0, Value.int 0, Value.int 0, Value.int 0, Value.int 0, Value.int 0, Value.int 0, Value.int 0, Value.int 0, Value.int 0, Value.int 0, Value.int 0, Value.int 0, Value.int 0, Value.int 0, Value.int 0, Value.int 0, Value.int 0, Value.int 0, Value.int 0, Value.int 0, Value.int 0, Value.int 0, Value.int 0, Value.int 0, Value.int 0, Value.int 0, Value.int 0, Value.int 0, Value.int 0, Value.int 0, Value.int 0, Value.int 0, Value.int 0, Value.int 0, Value.int 0, Value.int 0, Value.int 0, Value.int 0, Value.int 0, Value.int 0, Value.int 0, Value.int 0, Value.int 0, Value.int 0, Value.int 0, Value.int 0, Value.int 0, Value.int 0, Value.int 0, Value.int 0, Value.int 0, Value.int 0, Value.int 0, Value.int 0, Value.int 0, Value.int 0, Value.int 0, Value.int 0, Value.int 0, Value.int 0, Value.int 0, Value.int 0, Value.int 0, Value.int 0, Value.int 0, Value.int 0, Value.int 0, Value.int 0, Value.int 0, Value.int 0, Value.int 0, Value.int 0, Value.int 0, Value.int 0, Value.int 0, Value.int 0, Value.int 0, Value.int 0, Value.int 0, Value.int 0, Value.int 0, Value.int 0, Value.int 0, Value.int 0, Value.int 0, Value.int 0, Value.int 0, Value.int 0, Value.int 0, Value.int 0, Value.int 0, Value.int 0, Value.int 0, Value.int 0, Value.int 0, Value.int 0, Value.int 0, Value.int 0, Value.int 0, Value.int 0, Value.int 0, Value.int 0, Value.int 0, Value.int 0, Value.int 0, Value.int 0, Value.int 0, Value.int 0, Value.int 0, Value.int 0, Value.int 0, Value.int 0, Value.int 0, Value.int 0, Value.int 0, Value.int 0, Value.int 0, Value.int 0, Value.int 0, Value.int 0, Value.int 0, Value.int 0, Value.int 0, Value.int 0, Value.int 0, Value.int 0, Value.int 0, Value.int 0, Value.int 0, Value.int 0, Value.int 0, Value.int 0, Value.int 0, Value.int 0, Value.int 0, Value.int 0, Value.int 0, Value.int 0, Value.int 0, Value.int 0, Value.int 0, Value.int 0, Value.int 0, Value.int 0, Value.int 0, Value.int 0, Value.int 0, Value.int 0, Value.int 0, Value.int 0, Value.int 0, Value.int 0, Value.int 0, Value.int 0, Value.int 0, Value.int 0, Value.int 0, Value.int 0, Value.int 0, Value.int 0, Value.int 0, Value.int 0, Value.int 0, Value.int 0, Value.int 0, Value.int 0, Value.int 0, Value.int 0, Value.int 0, Value.int 0, Value.int 0, Value.int 0, Value.int 0, Value.int 0, Value.int 0, Value.int 0, Value.int 0, Value.int 0, Value.int 0, Value.int 0, Value.int 0, Value.int 0, Value.int 0, Value.int 0, Value.int 0, Value.int 0, Value.int 0, Value.int 0, Value.int 0, Value.int 0, Value.int 0, Value.int 0, Value.int 0, Value.int 0, Value.int 0, Value.int 0, Value.int 0, Value.int 0, Value.int 0, Value.int 0, Value.int 0, Value.int 0, Value.int 0, Value.int 0, Value.int 0, Value.int 0, Value.int 0, Value.int 0, Value.int 0, Value.int 0, Value.int 0, Value.int 0, Value.int 0, Value.int 0, Value.int 0, Value.int 0, Value.int 0, Value.int 0, Value.int 0, Value.int 0, Value.int 0, Value.int 0, Value.int 0, Value.int 0, Value.int 0, Value.int 0, Value.int 0, Value.int 0, Value.int 0, Value.int 0, Value.int 0, Value.int 0, Value.int 0, Value.int 0, Value.int 0, Value.int 0, Value.int 0, Value.int 0, Value.int 0, Value.int 0, Value.int 0, Value.int 0, Value.int 0, Value.int 0, Value.int 0, Value.int 0, Value.int 0, Value.int 0, Value.int 0, Value.int 0, Value.int 0, Value.int 0, Value.int 0, Value.int 0, Value.int 0, Value.int 0, Value.int 0, Value.int 0, Value.int 0, Value.int 0, Value.int 0, Value.int 0, Value.int 0, Value.int 0, Value.int 0, Value.int 0, Value.int 0, Value.int 0, Value.int 0, Value.int 0, Value.int 0, Value.int 0, Value.int 0, Value.int 0, Value.int 0, Value.int 0, Value.int 0, Value.int 0, Value.int 0, Value.int 0, Value.int 0, Value.int 0, Value.int 0, Value.int 0, Value.int 0, Value.int 0, Value.int 0, Value.int 0, Value.int 0, Value.int 0, Value.int 0, Value.int 0, Value.int 0, Value.int 0, Value.int 0, Value.int 0, Value.int 0, Value.int 0, Value.int 0, Value.int 0, Value.int 0, Value.int 0, Value.int 0, Value.int 0, Value.int 0, Value.int 0, Value.int 0, Value.int 0, Value.int 0, Value.int 0, Value.int 0, Value.int 0, Value.int 0, Value.int 0, Value.int 0, Value.int 0, Value.int 0, Value.int 0, Value.int 0, Value.int 0, Value.int 0, Value.int 0, Value.int 0, Value.int 0, Value.int 0, Value.int 0, Value.int 0, Value.int 0, Value.int 0, Value.int 0, Value.int 0, Value.int 0, Value.int 0, Value.int 0, Value.int 0, Value.int 0, Value.int 0, Value.int 0, Value.int 0, Value.int 0, Value.int 0, Value.int 0, Value.int 0, Value.int 0, Value.int 0, Value.int 0, Value.int 0, Value.int 0, Value.int 0, Value.int 0, Value.int 0, Value.int 0, Value.int 0, Value.int 0, Value.int 0, Value.int 0, Value.int 0, Value.int 0, Value.int 0, Value.int 0, Value.int 0, Value.int 0, Value.int 0, Value.int 0, Value.int 0, Value.int 0, Value.int 0, Value.int 0, Value.int 0, Value.int 0, Value.int 0, Value.int 0, Value.int 0, Value.int 0, Value.int 0, Value.int 0, Value.int 0, Value.int 0, Value.int 0, Value.int 0, Value.int 0, Value.int 0, Value.int 0, Value.int 0, Value.int 0, Value.int 0, Value.int 0, Value.int 0, Value.int 0, Value.int 0, Value.int 0, Value.int 0, Value.int 0, Value.int 0, Value.int 0, Value.int 0, Value.int 0, Value.int 0, Value.int 0, Value.int 0, Value.int 0, Value.int 0, Value.int 0, Value.int 0, Value.int 0, Value.int 0, Value.int 0, Value.int 0, Value.int 0, Value.int 0, Value.int 0, Value.int 0, Value.int 0, Value.int 0, Value.int 0, Value.int 0, Value.int 0, Value.int 0, Value.int 0, Value.int 0, Value.int 0, Value.int 0, Value.int 0, Value.int 0, Value.int 0, Value.int 0, Value.int 0, Value.int 0, Value.int 0, Value.int 0, Value.int 0, Value.int 0, Value.int 0, Value.int 0, Value.int 0, Value.int 0, Value.int 0, Value.int 0, Value.int 0, Value.int 0, Value.int 0, Value.int 0, Value.int 0, Value.int 0, Value.int 0, Value.int 0, Value.int 0, Value.int 0, Value.int 0, Value.int 0, Value.int 0, Value.int 0, Value.int 0, Value.int 0, Value.int 0, Value.int 0, Value.int 0, Value.int 0, Value.int 0, Value.int 0, Value.int 0, Value.int 0, Value.int 0, Value.int 0, Value.int 0, Value.int 0, Value.int 0, Value.int 0, Value.int 0, Value.int 0, Value.int 0, Value.int 0, Value.int 0, Value.int 0, Value.int 0, Value.int 0, Value.int 0, Value.int 0, Value.int 0, Value.int 0, Value.int 0, Value.int 0, Value.int 0, Value.int 0, Value.int 0, Value.int 0, Value.int 0, Value.int 0, Value.int 0, Value.int 0, Value.int 0, Value.int 0, Value.int 0, Value.int 0, Value.int 0, Value.int 0, Value.int 0, Value.int 0, Value.int 0, Value.int 0, Value.int 0, Value.int 0, Value.int 0, Value.int 0, Value.int 0, Value.int 0, Value.int 0, Value.int 0, Value.int 0, Value.int 0, Value.int 0, Value.int 0, Value.int 0, Value.int 0, Value.int 0, Value.int 0, Value.int 0, Value.int 0, Value.int 0, Value.int 0, Value.int 0, Value.int 0, Value.int 0, Value.int 0, Value.int 0, Value.int 0, Value.int 0, Value.int 0, Value.int 0, Value.int 0, Value.int 0, Value.int 0, Value.int 0, Value.int 0, Value.int 0, Value.int 0, Value.int 0, Value.int 0, Value.int 0, Value.int 0, Value.int 0, Value.int 0, Value.int 0, Value.int 0, Value.int 0, Value.int 0, Value.int 0, Value.int 0, Value.int 0, Value.int 0, Value.int 0, Value.int 0, Value.int 0, Value.int 0, Value.int 0, Value.int 0, Value.int 0, Value.int 0, Value.int 0, Value.int 0, Value.int 0, Value.int 0, Value.int 0, Value.int 0, Value.int 0, Value.int 0, Value.int 0, Value.int 0, Value.int 0, Value.int 0, Value.int 0, Value.int 0, Value.int 0, Value.int 0, Value.int 0, Value.int 0, Value.int 0, Value.int 0, Value.int 0, Value.int 0, Value.int 0, Value.int 0, Value.int 0, Value.int 0, Value.int 0, Value.int 0, Value.int 0, Value.int 0, Value.int 0, Value.int 0, Value.int 0, Value.int 0, Value.int 0, Value.int 0, Value.int 0, Value.int 0, Value.int 0, Value.int 0, Value.int 0, Value.int 0, Value.int 0, Value.int 0, Value.int 0, Value.int 0, Value.int 0, Value.int 0, Value.int 0, Value.int 0, Value.int 0, Value.int 0, Value.int 0, Value.int 0, Value.int 0, Value.int 0, Value.int 0, Value.int 0, Value.int 0, Value.int 0, Value.int 0, Value.int 0, Value.int 0, Value.int 0, Value.int 0, Value.int 0, Value.int 0, Value.int 0, Value.int 0, Value.int 0, Value.int 0, Value.int 0, Value.int 0, Value.int 0, Value.int 0, Value.int 0, Value.int 0, Value.int 0, Value.int 0, Value.int 0, Value.int 0, Value.int 0, Value.int 0, Value.int 0, Value.int 0, Value.int 0, Value.int 0, Value.int 0, Value.int 0, Value.int 0, Value.int 0, Value.int 0, Value.int 0, Value.int 0, Value.int 0, Value.int 0, Value.int 0, Value.int 0, Value.int 0, Value.int 0, Value.int 0, Value.int 0, Value.int 0, Value.int 0, Value.int 0, Value.int 0, Value.int 0, Value.int 0, Value.int 0, Value.int 0, Value.int 0, Value.int 0, Value.int 0, Value.int 0, Value.int 0, Value.int 0, Value.int 0, Value.int 0, Value.int 0, Value.int 0, Value.int 0, Value.int 0, Value.int 0, Value.int 0, Value.int 0, Value.int 0, Value.int 0, Value.int 0, Value.int 0, Value.int 0, Value.int 0, Value.int 0, Value.int 0, Value.int 0, Value.int 0, Value.int 0, Value.int 0, Value.int 0, Value.int 0, Value.int 0, Value.int 0, Value.int 0, Value.int 0, Value.int 0, Value.int 0, Value.int 0, Value.int 0, Value.int 0, Value.int 0, Value.int 0, Value.int 0, Value.int 0, Value.int 0, Value.int 0, Value.int 0, Value.int 0, Value.int 0, Value.int 0, Value.int 0, Value.int 0, Value.int 0, Value.int 0, Value.int 0, Value.int 0, Value.int 0, Value.int 0, Value.int 0, Value.int 0, Value.int 0, Value.int 0, Value.int 0, Value.int 0, Value.int 0, Value.int 0, Value.int 0, Value.int 0, Value.int 0, Value.int 0, Value.int 0, Value.int 0, Value.int 0, Value.int 0, Value.int 0, Value.int 0, Value.int 0, Value.int 0, Value.int 0, Value.int 0, Value.int 0, Value.int 0, Value.int 0, Value.int 0, Value.int 0, Value.int 0, Value.int 0, Value.int 0, Value.int 0, Value.int 0, Value.int 0, Value.int 0, Value.int 0, Value.int 0, Value.int 0, Value.int 0, Value.int 0, Value.int 0, Value.int 0, Value.int 0, Value.int 0, Value.int 0, Value.int 0, Value.int 0, Value.int 0, Value.int 0, Value.int 0, Value.int 0, Value.int 0, Value.int 0, Value.int 0, Value.int 0, Value.int 0, Value.int 0, Value.int 0, Value.int 0, Value.int 0, Value.int 0, Value.int 0, Value.int 0, Value.int 0, Value.int 0, Value.int 0, Value.int 0, Value.int 0, Value.int 0, Value.int 0, Value.int 0, Value.int 0, Value.int 0, Value.int 0, Value.int 0, Value.int 0, Value.int 0, Value.int 0, Value.int 0, Value.int 0, Value.int 0, Value.int 0, Value.int 0, Value.int 0, Value.int 0, Value.int 0, Value.int 0, Value.int 0, Value.int 0, Value.int 0, Value.int 0, Value.int 0, Value.int 0, Value.int 0, Value.int 0, Value.int 0, Value.int 0, Value.int 0, Value.int 0, Value.int 0, Value.int 0, Value.int 0, Value.int 0, Value.int 0, Value.int 0, Value.int 0, Value.int 0, Value.int 0, Value.int 0, Value.int 0, Value.int 0, Value.int 0, Value.int 0, Value.int 0, Value.int 0, Value.int 0, Value.int 0, Value.int 0, Value.int 0, Value.int 0, Value.int 0, Value.int 0, Value.int 0, Value.int 0, Value.int 0, Value.int 0, Value.int 0, Value.int 0, Value.int 0, Value.int 0, Value.int 0, Value.int 0, Value.int 0, Value.int 0, Value.int 0, Value.int 0, Value.int 0, Value.int 0, Value.int 0, Value.int 0, Value.int 0, Value.int 0, Value.int 0, Value.int 0, Value.int 0, Value.int 0, Value.int 0, Value.int 0, Value.int 0, Value.int 0, Value.int 0, Value.int 0, Value.int 0, Value.int 0, Value.int 0, Value.int 0, Value.int 0, Value.int 0, Value.int 0, Value.int 0, Value.int 0, Value.int 0, Value.int 0, Value.int 0, Value.int 0, Value.int 0, Value.int 0, Value.int 0, Value.int 0, Value.int 0, Value.int 0, Value.int 0, Value.int 0, Value.int 0, Value.int 0, Value.int 0, Value.int 0, Value.int 0, Value.int 0, Value.int 0, Value.int 0, Value.int 0, Value.int 0, Value.int 0, Value.int 0, Value.int 0, Value.int 0, Value.int 0, Value.int 0, Value.int 0, Value.int 0, Value.int 0, Value.int 0, Value.int 0, Value.int 0, Value.int 0, Value.int 0, Value.int 0, Value.int 0, Value.int 0, Value.int 0, Value.int 0, Value.int 0, Value.int 0, Value.int 0, Value.int 0, Value.int 0, Value.int 0, Value.int 0, Value.int 0, Value.int 0, Value.int 0, Value.int 0, Value.int 0, Value.int 0, Value.int 0, Value.int 0, Value.int 0, Value.int 0, Value.int 0, Value.int 0, Value.int 0, Value.int 0, Value.int 0, Value.int 0, Value.int 0, Value.int 0, Value.int 0, Value.int 0, Value.int 0, Value.int 0, Value.int 0, Value.int 0, Value.int 0, Value.int 0, Value.int 0, Value.int 0, Value.int 0, Value.int 0, Value.int 0, Value.int 0, Value.int 0, Value.int 0, Value.int 0, Value.int 0, Value.int 0, Value.int 0, Value.int 0, Value.int 0, Value.int 0, Value.int 0, Value.int 0, Value.int 0, Value.int 0, Value.int 0, Value.int 0, Value.int 0, Value.int 0, Value.int 0, Value.int 0, Value.int 0, Value.int 0, Value.int 0, Value.int 0, Value.int 0, Value.int 0, Value.int 0, Value.int 0, Value.int 0, Value.int 0, Value.int 0, Value.int 0, Value.int 0, Value.int 0, Value.int 0, Value.int 0, Value.int 0, Value.int 0, Value.int 0, Value.int 0, Value.int 0, Value.int 0, Value.int 0, Value.int 0, Value.int 0, Value.int 0, Value.int 0, Value.int 0, Value.int 0, Value.int 0, Value.int 0, Value.int 0, Value.int 0, Value.int 0, Value.int 0, Value.int 0, Value.int 0, Value.int 0, Value.int 0, Value.int 0, Value.int 0, Value.int 0, Value.int 0, Value.int 0, Value.int 0, Value.int 0, Value.int 0, Value.int 0, Value.int 0, Value.int 0, Value.int 0, Value.int 0, Value.int 0, Value.int 0, Value.int 0, Value.int 0, Value.int 0, Value.int 0, Value.int 0, Value.int 0, Value.int 0, Value.int 0, Value.int 0, Value.int 0, Value.int 0, Value.int 0, Value.int 0, Value.int 0, Value.int 0, Value.int 0, Value.int 0, Value.int 0, Value.int 0, Value.int 0, Value.int 0, Value.int 0, Value.int 0, Value.int 0, Value.int 0, Value.int 0, Value.int 0, Value.int 0, Value.int 0, Value.int 0, Value.int 0, Value.int 0, Value.int 0, Value.int 0, Value.int 0, Value.int 0, Value.int 0, Value.int 0, Value.int 0, Value.int 0, Value.int 0, Value.int 0, Value.int 0, Value.int 0, Value.int 0, Value.int 0, Value.int 0, Value.int 0, Value.int 0, Value.int 0, Value.int 0, Value.int 0, Value.int 0, Value.int 0, Value.int 0, Value.int 0, Value.int 0, Value.int 0, Value.int 0, Value.int 0, Value.int 0, Value.int 0, Value.int 0, Value.int 0, Value.int 0, Value.int 0, Value.int 0, Value.int 0, Value.int 0, Value.int 0, Value.int 0, Value.int 0, Value.int 0, Value.int 0, Value.int 0, Value.int 0, Value.int 0, Value.int 0, Value.int 0, Value.int 0, Value.int 0, Value.int 0, Value.int 0, Value.int 0, Value.int 0, Value.int 0, Value.int 0, Value.int 0, Value.int 0, Value.int 0, Value.int 0, Value.int 0, Value.int 0, Value.int 0, Value.int 0, Value.int 0, Value.int 0, Value.int 0, Value.int 0, Value.int 0, Value.int 0, Value.int 0, Value.int 0, Value.int 0, Value.int 0, Value.int 0, Value.int 0, Value.int 0, Value.int 0, Value.int 0, Value.int 0, Value.int 0, Value.int 0, Value.int 0, Value.int 0, Value.int 0, Value.int 0, Value.int 0, Value.int 0, Value.int 0, Value.int 0, Value.int 0, Value.int 0, Value.int 0, Value.int 0, Value.int 0, Value.int 0, Value.int 0, Value.int 0, Value.int 0, Value.int 0, Value.int 0, Value.int 0, Value.int 0, Value.int 0, Value.int 0, Value.int 0, Value.int 0, Value.int 0, Value.int 0, Value.int 0, Value.int 0, Value.int 0, Value.int 0, Value.int 0, Value.int 0, Value.int 0, Value.int 0, Value.int 0, Value.int 0, Value.int 0, Value.int 0, Value.int 0, Value.int 0, Value.int 0, Value.int 0, Value.int 0, Value.int 0, Value.int 0, Value.int 0, Value.int 0, Value.int 0, Value.int 0, Value.int 0, Value.int 0, Value.int 0, Value.int 0, Value.int 0, Value.int 0, Value.int 0, Value.int 0, Value.int 0, Value.int 0, Value.int 0, Value.int 0, Value.int 0, Value.int 0, Value.int 0, Value.int 0, Value.int 0, Value.int 1, Value.int 0, Value.int 0, Value.int 0, Value.int 0, Value.int 0, Value.int 0, Value.int 0, Value.int 0, Value.int 0, Value.int 0, Value.int 0, Value.int 0, Value.int 0, Value.int 0, Value.int 0, Value.int 0, Value.int 0, Value.int 0, Value.int 0, Value.int 0, Value.int 0, Value.int 0, Value.int 0, Value.int 0, Value.int 0, Value.int 0, Value.int 0, Value.int 0, Value.int 0, Value.int 0, Value.int 0, Value.int 0, Value.int 0, Value.int 0, Value.int 0, Value.int 0, Value.int 0, Value.int 0, Value.int 0, Value.int 0, Value.int 0, Value.int 0, Value.int 0, Value.int 0, Value.int 0, Value.int 0, Value.int 0, Value.int 0, Value.int 0, Value.int 0, Value.int 0, Value.int 0, Value.int 0, Value.int 0, Value.int 0, Value.int 0, Value.int 0, Value.int 0, Value.int 0, Value.int 0, Value.int 0, Value.int 0, Value.int 0, Value.int 0, Value.int 0, Value.int 0, Value.int 0, Value.int 0, Value.int 0, Value.int 0, Value.int 0, Value.int 0, Value.int 0, Value.int 0, Value.int 0, Value.int 0, Value.int 0, Value.int 0, Value.int 0, Value.int 0, Value.int 0, Value.int 0, Value.int 0, Value.int 0, Value.int 0, Value.int 0, Value.int 0, Value.int 0, Value.int 0, Value.int 0, Value.int 0, Value.int 0, Value.int 0, Value.int 0, Value.int 0, Value.int 0, Value.int 0, Value.int 0, Value.int 0, Value.int 0, Value.int 0, Value.int 0, Value.int 0, Value.int 0, Value.int 0, Value.int 0, Value.int 0, Value.int 0, Value.int 0, Value.int 0, Value.int 0, Value.int 0, Value.int 0, Value.int 0, Value.int 0, Value.int 0, Value.int 0, Value.int 0, Value.int 0, Value.int 0, Value.int 0, Value.int 0, Value.int 0, Value.int 0, Value.int 0, Value.int 0, Value.int 0, Value.int 0, Value.int 0] : List Value))).set 155 (13, ([Value.int 0, Value.int 0, Value.int 0, Value.int 0, Value.int 0, Value.int 0, Value.int 0, Value.int 0, Value.int 0, Value.int 0, Value.int 1] : List Value))).set 157 (15, ([Value.int 0, Value.int 0, Value.int 0, Value.int 0, Value.int 0, Value.int 0, Value.int 0, Value.int 0, Value.int 0, Value.int 0, Value.int 0, Value.int 0, Value.int 0, Value.int 0, Value.int 0, Value.int 0, Value.int 0, Value.int 0, Value.int 0, Value.int 0, Value.int 0, Value.int 0, Value.int 0, Value.int 0, Value.int 0, Value.int 0, Value.int 0, Value.int 0, Value.int 0, Value.int 0, Value.int 0, Value.int 0, Value.int 0, Value.int 0, Value.int 0, Value.int 0, Value.int 0, Value.int 0, Value.int 0, Value.int 0, Value.int 0, Value.int 0, Value.int 0, Value.int 0, Value.int 0, Value.int 0, Value.int 0, Value.int 0, Value.int 0, Value.int 0, Value.int 0, Value.int 0, Value.int 0, Value.int 0, Value.int 0, Value.int 0, Value.int 0, Value.int 0, Value.int 0, Value.int 0, Value.int 0, Value.int 0, Value.int 0, Value.int 0, Value.int 0, Value.int 0, Value.int 0, Value.int 0, Value.int 0, Value.int 0, Value.int 0, Value.int 0, Value.int 0, Value.int 0, Value.int 0, Value.int 0, Value.int 0, Value.int 0, Value.int 0, Value.int 0, Value.int 0, Value.int 0, Value.int 0, Value.int 0, Value.int 0, Value.int 0, Value.int 0, Value.int 0, Value.int 0, Value.int 0, Value.int 0, Value.int 0, Value.int 0, Value.int 0, Value.int 0, Value.int 0, Value.int 0, Value.int 0, Value.int 0, Value.int 0, Value.int 0, Value.int 0, Value.int 0, Value.int 0, Value.int 0, Value.int 0, Value.int 0, Value.int 0, Value.int 0, Value.int 0, Value.int 0, Value.int 0, Value.int 0, Value.int 0, Value.int 0, Value.int 0, Value.int 0, Value.int 0, Value.int 0, Value.int 0, Value.int 0, Value.int 0, Value.int 0, Value.int 0, Value.int 0, Value.int 0, Value.int 0, Value.int 0, Value.int 0, Value.int 0, Value.int 0, Value.int 0, Value.int 0, Value.int 0, Value.int 0, Value.int 0, Value.int 0, Value.int 0, Value.int 0, Value.int 0, Value.int 0, Value.int 0, Value.int 0, Value.int 0, Value.int 0, Value.int 0, Value.int 0, Value.int 0, Value.int 0, Value.int 0, Value.int 0, Value.int 0, Value.int 0, Value.int 0, Value.int 0, Value.int 0, Value.int 0, Value.int 0, Value.int 0, Value.int 0, Value.int 0, Value.int 0, Value.int 0, Value.int 0, Value.int 0, Value.int 0, Value.int 0, Value.int 0, Value.int 0, Value.int 0, Value.int 0, Value.int 0, Value.int 0, Value.int 0, Value.int 0, Value.int 0, Value.int 0, Value.int 0, Value.int 0, Value.int 0, Value.int 0, Value.int 0, Value.int 0, Value.int 0, Value.int 0, Value.int 0, Value.int 0, Value.int 0, Value.int 0, Value.int 0, Value.int 0, Value.int 0, Value.int 0, Value.int 0, Value.int 0, Value.int 0, Value.int 0, Value.int 0, Value.int 0, Value.int 0, Value.int 0, Value.int 0, Value.int 0, Value.int 0, Value.int 0, Value.int 0, Value.int 0, Value.int 0, Value.int 0, Value.int 0, Value.int 0, Value.int 0, Value.int 0, Value.int 0, Value.int 0, Value.int 0, Value.int 0, Value.int 0, Value.int 0, Value.int 0, Value.int 0, Value.int 0, Value.int 0, Value.int 0, Value.int 0, Value.int 0, Value.int 0, Value.int 0, Value.int 0, Value.int 0, Value.int 0, Value.int 0, Value.int 0, Value.int 0, Value.int 0, Value.int 0, Value.int 0, Value.int 0, Value.int 0, Value.int 0, Value.int 0, Value.int 0, Value.int 0, Value.int 0, Value.int 0, Value.int 0, Value.int 0, Value.int 0, Value.int 0, Value.int 0, Value.int 0, Value.int 0, Value.int 0, Value.int 0, Value.int 0, Value.int 0, Value.int 0, Value.int 0, Value.int 0, Value.int 0, Value.int 0, Value.int 0, Value.int 0, Value.int 0, Value.int 0, Value.int 0, Value.int 0, Value.int 0, Value.int 0, Value.int 0, Value.int 0, Value.int 0, Value.int 0, Value.int 0, Value.int 0, Value.int 0, Value.int 0, Value.int 0, Value.int 0, Value.int 0, Value.int 0, Value.int 0, Value.int 0, Value.int 0, Value.int 0, Value.int 0, Value.int 0, Value.int 0, Value.int 0, Value.int 0, Value.int 0, Value.int 0, Value.int 0, Value.int 0, Value.int 0, Value.int 0, Value.int 0, Value.int 0, Value.int 0, Value.int 0, Value.int 0, Value.int 0, Value.int 0, Value.int 0, Value.int 0, Value.int 0, Value.int 0, Value.int 0, Value.int 0, Value.int 0, Value.int 0, Value.int 0, Value.int 0, Value.int 0, Value.int 0, Value.int 0, Value.int 0, Value.int 0, Value.int 0, Value.int 0, Value.int 0, Value.int 0, Value.int 0, Value.int 0, Value.int 0, Value.int 0, Value.int 0, Value.int 0, Value.int 0, Value.int 0, Value.int 0, Value.int 0, Value.int 0, Value.int 0, Value.int 0, Value.int 0, Value.int 0, Value.int 0, Value.int 0, Value.int 0, Value.int 0, Value.int 0, Value.int 0, Value.int 0, Value.int 0, Value.int 0, Value.int 0, Value.int 0, Value.int 0, Value.int 0, Value.int 0, Value.int 0, Value.int 0, Value.int 0, Value.int 0, Value.int 0, Value.int 0, Value.int 0, Value.int 0, Value.int 0, Value.int 0, Value.int 0, Value.int 0, Value.int 0, Value.int 0, Value.int 0, Value.int 0, Value.int 0, Value.int 0, Value.int 0, Value.int 0, Value.int 0, Value.int 0, Value.int 0, Value.int 0, Value.int 0, Value.int 0, Value.int 0, Value.int 0, Value.int 0, Value.int 0, Value.int 0, Value.int 0, Value.int 0, Value.int 0, Value.int 0, Value.int 0, Value.int 0, Value.int 0, Value.int 0, Value.int 0, Value.int 0, Value.int 0, Value.int 0, Value.int 0, Value.int 0, Value.int 0, Value.int 0, Value.int 0, Value.int 0, Value.int 0, Value.int 0, Value.int 0, Value.int 0, Value.int 0, Value.int 0, Value.int 0, Value.int 0, Value.int 0, Value.int 0, Value.int 0, Value.int 0, Value.int 0, Value.int 0, Value.int 0, Value.int 0, Value.int 0, Value.int 0, Value.int 0, Value.int 0, Value.int 0, Value.int 0, Value.int 0, Value.int 0, Value.int 0, Value.int 0, Value.int 0, Value.int 0, Value.int 0, Value.int 0, Value.int 0, Value.int 0, Value.int 0, Value.int 0, Value.int 0, Value.int 0, Value.int 0, Value.int 0, Value.int 0, Value.int 0, Value.int 0, Value.int 0, Value.int 0, Value.int 0, Value.int 0, Value.int 0, Value.int 0, Value.int 0, Value.int 0, Value.int 0, Value.int 0, Value.int 0, Value.int 0, Value.int 0, Value.int 0, Value.int 0, Value.int 0, Value.int 0, Value.int 0, Value.int 0, Value.int 0, Value.int 0, Value.int 0, Value.int 0, Value.int 0, Value.int 0, Value.int 0, Value.int 0, Value.int 0, Value.int 0, Value.int 0, Value.int 0, Value.int 0, Value.int 0, Value.int 0, Value.int 0, Value.int 0, Value.int 0, Value.int 0, Value.int 0, Value.int 0, Value.int 0, Value.int 0, Value.int 0, Value.int 0, Value.int 0, Value.int 0, Value.int 0, Value.int 0, Value.int 0, Value.int 0, Value.int 0, Value.int 0, Value.int 0, Value.int 0, Value.int 0, Value.int 0, Value.int 0, Value.int 0, Value.int 0, Value.int 0, Value.int 0, Value.int 0, Value.int 0, Value.int 0, Value.int 0, Value.int 0, Value.int 0, Value.int 0, Value.int 0, Value.int 0, Value.int 0, Value.int 0, Value.int 0, Value.int 0, Value.int 0, Value.int 0, Value.int 0, Value.int 0, Value.int 0, Value.int 0, Value.int 0, Value.int 0, Value.int 0, Value.int 0, Value.int 0, Value.int 0, Value.int 0, Value.int 0, Value.int 0, Value.int 0, Value.int 0, Value.int 0, Value.int 0, Value.int 0, Value.int 0, Value.int 0, Value.int 0, Value.int 0, Value.int 0, Value.int 0, Value.int 0, Value.int 0, Value.int 0, Value.int 0, Value.int 0, Value.int 0, Value.int 0, Value.int 0, Value.int 0, Value.int 0, Value.int 0, Value.int 0, Value.int 0, Value.int 0, Value.int 0, Value.int 0, Value.int 0, Value.int 0, Value.int 0, Value.int 0, Value.int 0, Value.int 0, Value.int 0, Value.int 0, Value.int 0, Value.int 0, Value.int 0, Value.int 0, Value.int 0, Value.int 0, Value.int 0, Value.int 0, Value.int 0, Value.int 0, Value.int 0, Value.int 0, Value.int 0, Value.int 0, Value.int 0, Value.int 0, Value.int 0, Value.int 0, Value.int 0, Value.int 0, Value.int 0, Value.int 0, Value.int 0, Value.int 0, Value.int 0, Value.int 0, Value.int 0, Value.int 0, Value.int 0, Value.int 0, Value.int 0, Value.int 0, Value.int 0, Value.int 0, Value.int 0, Value.int 0, Value.int 0, Value.int 0, Value.int 0, Value.int 0, Value.int 0, Value.int 0, Value.int 0, Value.int 0, Value.int 0, Value.int 1, Value.int 0, Value.int 0, Value.int 0, Value.int 0, Value.int 0, Value.int 0, Value.int 0, Value.int 0, Value.int 0, Value.int 0, Value.int 0, Value.int 0, Value.int 0, Value.int 0, Value.int 0, Value.int 0, Value.int 0, Value.int 0, Value.int 0, Value.int 0, Value.int 0, Value.int 0, Value.int 0, Value.int 0, Value.int 0, Value.int 0, Value.int 0, Value.int 0, Value.int 0, Value.int 0, Value.int 0, Value.int 0, Value.int 0, Value.int 0, Value.int 0, Value.int 0, Value.int 0, Value.int 0, Value.int 0, Value.int 0, Value.int 0, Value.int 0, Value.int 0, Value.int 0, Value.int 0, Value.int 0, Value.int 0, Value.int 0, Value.int 0, Value.int 0, Value.int 0, Value.int 0, Value.int 0, Value.int 0, Value.int 0, Value.int 0, Value.int 0, Value.int 0, Value.int 0, Value.int 0] : List Value)))) rfl ?_
                  refine s_ek_ret (o := some (.int (-100))) (fun _ => rfl) ?_
                  exact rfl
set_option maxHeartbeats 20000000 in
set_option maxRecDepth 100000 in
theorem s_op_laws (L : Nat) (xs : Nat → Int32) (a : Int32) (b : Int32) (c : Int32) : s_Ek (s_rows 3 L xs) 1299 s_e136.1 0 (lv_args 0 [.ref 0, .int a, .int b, .int c]) [] s_M0 (fun v M1 => ∃ r : Int32, v = some (.int r) ∧ s_Ek (s_rows 3 L xs) 1299 s_e207.1 0 (lv_args 0 [.ref 151, .int a, .int b, .int c]) [] M1 (fun w _ => w = some (.int r))) := by
  show s_Ek (s_rows 3 L xs) 1299 s_e136.1 0 [(0, .ref 0), (1, .int a), (2, .int b), (3, .int c)] [] s_M0 _
  refine s_ek_bk 1 (P := 1) (ls' := [(0, .ref 0), (1, .int a), (2, .int b), (3, .int c)]) (st' := [.int a]) (M' := s_M0) rfl ?_
  refine s_ek_call (ν := s_e175.1) (P := 4) (as := [.int a]) (r := []) (fun _ => rfl) rfl ?_
  show s_Ek (s_rows 3 L xs) 1298 s_e175.1 0 [(0, .int a)] [] s_M0 _
  refine s_ek_bk 1 (P := 1) (ls' := [(0, .int a)]) (st' := [.int a]) (M' := s_M0) rfl ?_
  refine s_ek_if1 (T := 14) rfl rfl (fun h1 => ?_) (fun h1 => ?_)
  · replace h1 : a.toInt < 0 := h1
    refine s_ek_bk 1 (P := 15) (ls' := [(0, .int a)]) (st' := [.int 0]) (M' := s_M0) rfl ?_
    refine s_ek_ret (o := some (.int 0)) (fun _ => rfl) ?_
    show s_Ek (s_rows 3 L xs) 1299 s_e136.1 4 [(0, .ref 0), (1, .int a), (2, .int b), (3, .int c)] [.int 0] s_M0 _
    refine s_ek_bk 2 (P := 19) (ls' := [(0, .ref 0), (1, .int a), (2, .int b), (3, .int c)]) (st' := [.int (-1)]) (M' := s_M0) rfl ?_
    refine s_ek_ret (o := some (.int (-1))) (fun _ => rfl) ?_
    refine ⟨(-1), rfl, ?_⟩
    show s_Ek (s_rows 3 L xs) 1299 s_e207.1 0 [(0, .ref 151), (1, .int a), (2, .int b), (3, .int c)] [] s_M0 _
    refine s_ek_bk 1 (P := 1) (ls' := [(0, .ref 151), (1, .int a), (2, .int b), (3, .int c)]) (st' := [.int a]) (M' := s_M0) rfl ?_
    refine s_ek_call (ν := s_e281.1) (P := 4) (as := [.int a]) (r := []) (fun _ => rfl) rfl ?_
    show s_Ek (s_rows 3 L xs) 1298 s_e281.1 0 [(0, .int a)] [] s_M0 _
    refine s_ek_bk 3 (P := 3) (ls' := [(0, .int a)]) (st' := [.int 5, .int 0, .int a]) (M' := s_M0) rfl ?_
    refine s_ek_call (ν := s_e181.1) (P := 6) (as := [.int a, .int 0, .int 5]) (r := []) (fun _ => rfl) rfl ?_
    show s_Ek (s_rows 3 L xs) 1297 s_e181.1 0 [(0, .int a), (1, .int 0), (2, .int 5)] [] s_M0 _
    refine s_ek_bk 2 (P := 2) (ls' := [(0, .int a), (1, .int 0), (2, .int 5)]) (st' := [.int 0, .int a]) (M' := s_M0) rfl ?_
    refine s_ek_if2 (T := 14) rfl rfl (fun h2 => ?_) (fun h2 => ?_)
    · replace h2 : a.toInt < 0 := h2
      refine s_ek_bk 1 (P := 15) (ls' := [(0, .int a), (1, .int 0), (2, .int 5)]) (st' := [.int 0]) (M' := s_M0) rfl ?_
      refine s_ek_ret (o := some (.int 0)) (fun _ => rfl) ?_
      show s_Ek (s_rows 3 L xs) 1298 s_e281.1 6 [(0, .int a)] [.int 0] s_M0 _
      refine s_ek_ret (o := some (.int 0)) (fun _ => rfl) ?_
      show s_Ek (s_rows 3 L xs) 1299 s_e207.1 4 [(0, .ref 151), (1, .int a), (2, .int b), (3, .int c)] [.int 0] s_M0 _
      refine s_ek_bk 2 (P := 18) (ls' := [(0, .ref 151), (1, .int a), (2, .int b), (3, .int c)]) (st' := [.int (-1)]) (M' := s_M0) rfl ?_
      refine s_ek_ret (o := some (.int (-1))) (fun _ => rfl) ?_
      exact rfl
    · replace h2 : ¬ (a.toInt < 0) := h2
      replace h2 : 0 ≤ a.toInt := by omega
      omega
  · replace h1 : ¬ (a.toInt < 0) := h1
    replace h1 : 0 ≤ a.toInt := by omega
    refine s_ek_bk 2 (P := 7) (ls' := [(0, .int a)]) (st' := [.int 6, .int a]) (M' := s_M0) rfl ?_
    refine s_ek_if2 (T := 14) rfl rfl (fun h2 => ?_) (fun h2 => ?_)
    · replace h2 : 6 ≤ a.toInt := h2
      refine s_ek_bk 1 (P := 15) (ls' := [(0, .int a)]) (st' := [.int 0]) (M' := s_M0) rfl ?_
      refine s_ek_ret (o := some (.int 0)) (fun _ => rfl) ?_
      show s_Ek (s_rows 3 L xs) 1299 s_e136.1 4 [(0, .ref 0), (1, .int a), (2, .int b), (3, .int c)] [.int 0] s_M0 _
      refine s_ek_bk 2 (P := 19) (ls' := [(0, .ref 0), (1, .int a), (2, .int b), (3, .int c)]) (st' := [.int (-1)]) (M' := s_M0) rfl ?_
      refine s_ek_ret (o := some (.int (-1))) (fun _ => rfl) ?_
      refine ⟨(-1), rfl, ?_⟩
      show s_Ek (s_rows 3 L xs) 1299 s_e207.1 0 [(0, .ref 151), (1, .int a), (2, .int b), (3, .int c)] [] s_M0 _
      refine s_ek_bk 1 (P := 1) (ls' := [(0, .ref 151), (1, .int a), (2, .int b), (3, .int c)]) (st' := [.int a]) (M' := s_M0) rfl ?_
      refine s_ek_call (ν := s_e281.1) (P := 4) (as := [.int a]) (r := []) (fun _ => rfl) rfl ?_
      show s_Ek (s_rows 3 L xs) 1298 s_e281.1 0 [(0, .int a)] [] s_M0 _
      refine s_ek_bk 3 (P := 3) (ls' := [(0, .int a)]) (st' := [.int 5, .int 0, .int a]) (M' := s_M0) rfl ?_
      refine s_ek_call (ν := s_e181.1) (P := 6) (as := [.int a, .int 0, .int 5]) (r := []) (fun _ => rfl) rfl ?_
      show s_Ek (s_rows 3 L xs) 1297 s_e181.1 0 [(0, .int a), (1, .int 0), (2, .int 5)] [] s_M0 _
      refine s_ek_bk 2 (P := 2) (ls' := [(0, .int a), (1, .int 0), (2, .int 5)]) (st' := [.int 0, .int a]) (M' := s_M0) rfl ?_
      refine s_ek_if2 (T := 14) rfl rfl (fun h3 => ?_) (fun h3 => ?_)
      · replace h3 : a.toInt < 0 := h3
        omega
      · replace h3 : ¬ (a.toInt < 0) := h3
        replace h3 : 0 ≤ a.toInt := by omega
        refine s_ek_bk 2 (P := 7) (ls' := [(0, .int a), (1, .int 0), (2, .int 5)]) (st' := [.int 5, .int a]) (M' := s_M0) rfl ?_
        refine s_ek_if2 (T := 14) rfl rfl (fun h4 => ?_) (fun h4 => ?_)
        · replace h4 : 5 < a.toInt := h4
          refine s_ek_bk 1 (P := 15) (ls' := [(0, .int a), (1, .int 0), (2, .int 5)]) (st' := [.int 0]) (M' := s_M0) rfl ?_
          refine s_ek_ret (o := some (.int 0)) (fun _ => rfl) ?_
          show s_Ek (s_rows 3 L xs) 1298 s_e281.1 6 [(0, .int a)] [.int 0] s_M0 _
          refine s_ek_ret (o := some (.int 0)) (fun _ => rfl) ?_
          show s_Ek (s_rows 3 L xs) 1299 s_e207.1 4 [(0, .ref 151), (1, .int a), (2, .int b), (3, .int c)] [.int 0] s_M0 _
          refine s_ek_bk 2 (P := 18) (ls' := [(0, .ref 151), (1, .int a), (2, .int b), (3, .int c)]) (st' := [.int (-1)]) (M' := s_M0) rfl ?_
          refine s_ek_ret (o := some (.int (-1))) (fun _ => rfl) ?_
          exact rfl
        · replace h4 : ¬ (5 < a.toInt) := h4
          replace h4 : a.toInt ≤ 5 := by omega
          omega
    · replace h2 : ¬ (6 ≤ a.toInt) := h2
      replace h2 : a.toInt < 6 := by omega
      refine s_ek_bk 2 (P := 15) (ls' := [(0, .int a)]) (st' := [.int 1]) (M' := s_M0) rfl ?_
      refine s_ek_ret (o := some (.int 1)) (fun _ => rfl) ?_
      show s_Ek (s_rows 3 L xs) 1299 s_e136.1 4 [(0, .ref 0), (1, .int a), (2, .int b), (3, .int c)] [.int 1] s_M0 _
      refine s_ek_bk 3 (P := 9) (ls' := [(0, .ref 0), (1, .int a), (2, .int b), (3, .int c)]) (st' := [.int 1, .int c]) (M' := s_M0) rfl ?_
      refine s_ek_if2 (T := 18) rfl rfl (fun h3 => ?_) (fun h3 => ?_)
      · replace h3 : c.toInt < 1 := h3
        refine s_ek_bk 1 (P := 19) (ls' := [(0, .ref 0), (1, .int a), (2, .int b), (3, .int c)]) (st' := [.int (-1)]) (M' := s_M0) rfl ?_
        refine s_ek_ret (o := some (.int (-1))) (fun _ => rfl) ?_
        refine ⟨(-1), rfl, ?_⟩
        show s_Ek (s_rows 3 L xs) 1299 s_e207.1 0 [(0, .ref 151), (1, .int a), (2, .int b), (3, .int c)] [] s_M0 _
        refine s_ek_bk 1 (P := 1) (ls' := [(0, .ref 151), (1, .int a), (2, .int b), (3, .int c)]) (st' := [.int a]) (M' := s_M0) rfl ?_
        refine s_ek_call (ν := s_e281.1) (P := 4) (as := [.int a]) (r := []) (fun _ => rfl) rfl ?_
        show s_Ek (s_rows 3 L xs) 1298 s_e281.1 0 [(0, .int a)] [] s_M0 _
        refine s_ek_bk 3 (P := 3) (ls' := [(0, .int a)]) (st' := [.int 5, .int 0, .int a]) (M' := s_M0) rfl ?_
        refine s_ek_call (ν := s_e181.1) (P := 6) (as := [.int a, .int 0, .int 5]) (r := []) (fun _ => rfl) rfl ?_
        show s_Ek (s_rows 3 L xs) 1297 s_e181.1 0 [(0, .int a), (1, .int 0), (2, .int 5)] [] s_M0 _
        refine s_ek_bk 2 (P := 2) (ls' := [(0, .int a), (1, .int 0), (2, .int 5)]) (st' := [.int 0, .int a]) (M' := s_M0) rfl ?_
        refine s_ek_if2 (T := 14) rfl rfl (fun h4 => ?_) (fun h4 => ?_)
        · replace h4 : a.toInt < 0 := h4
          omega
        · replace h4 : ¬ (a.toInt < 0) := h4
          replace h4 : 0 ≤ a.toInt := by omega
          refine s_ek_bk 2 (P := 7) (ls' := [(0, .int a), (1, .int 0), (2, .int 5)]) (st' := [.int 5, .int a]) (M' := s_M0) rfl ?_
          refine s_ek_if2 (T := 14) rfl rfl (fun h5 => ?_) (fun h5 => ?_)
          · replace h5 : 5 < a.toInt := h5
            omega
          · replace h5 : ¬ (5 < a.toInt) := h5
            replace h5 : a.toInt ≤ 5 := by omega
            refine s_ek_bk 2 (P := 15) (ls' := [(0, .int a), (1, .int 0), (2, .int 5)]) (st' := [.int 1]) (M' := s_M0) rfl ?_
            refine s_ek_ret (o := some (.int 1)) (fun _ => rfl) ?_
            show s_Ek (s_rows 3 L xs) 1298 s_e281.1 6 [(0, .int a)] [.int 1] s_M0 _
            refine s_ek_ret (o := some (.int 1)) (fun _ => rfl) ?_
            show s_Ek (s_rows 3 L xs) 1299 s_e207.1 4 [(0, .ref 151), (1, .int a), (2, .int b), (3, .int c)] [.int 1] s_M0 _
            refine s_ek_bk 4 (P := 11) (ls' := [(0, .ref 151), (1, .int a), (2, .int b), (3, .int c)]) (st' := [.int 10, .int 1, .int c]) (M' := s_M0) rfl ?_
            refine s_ek_call (ν := s_e181.1) (P := 14) (as := [.int c, .int 1, .int 10]) (r := []) (fun _ => rfl) rfl ?_
            show s_Ek (s_rows 3 L xs) 1298 s_e181.1 0 [(0, .int c), (1, .int 1), (2, .int 10)] [] s_M0 _
            refine s_ek_bk 2 (P := 2) (ls' := [(0, .int c), (1, .int 1), (2, .int 10)]) (st' := [.int 1, .int c]) (M' := s_M0) rfl ?_
            refine s_ek_if2 (T := 14) rfl rfl (fun h6 => ?_) (fun h6 => ?_)
            · replace h6 : c.toInt < 1 := h6
              refine s_ek_bk 1 (P := 15) (ls' := [(0, .int c), (1, .int 1), (2, .int 10)]) (st' := [.int 0]) (M' := s_M0) rfl ?_
              refine s_ek_ret (o := some (.int 0)) (fun _ => rfl) ?_
              show s_Ek (s_rows 3 L xs) 1299 s_e207.1 14 [(0, .ref 151), (1, .int a), (2, .int b), (3, .int c)] [.int 0] s_M0 _
              refine s_ek_bk 2 (P := 18) (ls' := [(0, .ref 151), (1, .int a), (2, .int b), (3, .int c)]) (st' := [.int (-1)]) (M' := s_M0) rfl ?_
              refine s_ek_ret (o := some (.int (-1))) (fun _ => rfl) ?_
              exact rfl
            · replace h6 : ¬ (c.toInt < 1) := h6
              replace h6 : 1 ≤ c.toInt := by omega
              omega
      · replace h3 : ¬ (c.toInt < 1) := h3
        replace h3 : 1 ≤ c.toInt := by omega
        refine s_ek_bk 2 (P := 15) (ls' := [(0, .ref 0), (1, .int a), (2, .int b), (3, .int c)]) (st' := [.int 10, .int c]) (M' := s_M0) rfl ?_
        refine s_ek_if2 (T := 20) rfl rfl (fun h4 => ?_) (fun h4 => ?_)
        · replace h4 : c.toInt ≤ 10 := h4
          refine s_ek_bk 2 (P := 22) (ls' := [(0, .ref 0), (1, .int a), (2, .int b), (3, .int c)]) (st' := [.int a, .ref 0]) (M' := s_M0) rfl ?_
          refine s_ek_call (ν := s_e176.1) (P := 25) (as := [.ref 0, .int a]) (r := []) (fun _ => rfl) rfl ?_
          show s_Ek (s_rows 3 L xs) 1298 s_e176.1 0 [(0, .ref 0), (1, .int a)] [] s_M0 _
          refine s_ek_bk 1 (P := 1) (ls' := [(0, .ref 0), (1, .int a)]) (st' := [.int a]) (M' := s_M0) rfl ?_
          refine s_ek_if1 (T := 22) rfl rfl (fun h5 => ?_) (fun h5 => ?_)
          · replace h5 : a.toInt < 0 := h5
            omega
          · replace h5 : ¬ (a.toInt < 0) := h5
            replace h5 : 0 ≤ a.toInt := by omega
            refine s_ek_bk 4 (P := 10) (ls' := [(0, .ref 0), (1, .int a)]) (st' := [.int 6, .int a]) (M' := s_M0) rfl ?_
            refine s_ek_if2 (T := 22) rfl rfl (fun h6 => ?_) (fun h6 => ?_)
            · replace h6 : 6 ≤ a.toInt := h6
              omega
            · replace h6 : ¬ (6 ≤ a.toInt) := h6
              replace h6 : a.toInt < 6 := by omega
              refine s_ek_bk 3 (P := 18) (ls' := [(0, .ref 0), (1, .int a)]) (st' := [.int a, .ref 135]) (M' := s_M0) rfl ?_
              rcases s_rg_0_5 (a := a) (by omega) (by omega) with rfl | rfl | rfl | rfl | rfl | rfl
              · refine s_ek_bk 6 (P := 33) (ls' := [(0, .ref 0), (1, .int 0)]) (st' := [.ref 139]) (M' := s_M0) rfl ?_
                refine s_ek_ret (o := some (.ref 139)) (fun _ => rfl) ?_
                show s_Ek (s_rows 3 L xs) 1299 s_e136.1 25 [(0, .ref 0), (1, .int 0), (2, .int b), (3, .int c)] [.ref 139] s_M0 _
                refine s_ek_bk 2 (P := 29) (ls' := [(4, .ref 139), (0, .ref 0), (1, .int 0), (2, .int b), (3, .int c)]) (st' := [.ref 139]) (M' := s_M0) rfl ?_
                refine s_ek_call (ν := s_e84.1) (P := 32) (as := [.ref 139]) (r := []) (fun _ => rfl) rfl ?_
                show s_Ek (s_rows 3 L xs) 1298 s_e84.1 0 [(0, .ref 139)] [] s_M0 _
                refine s_ek_bk 6 (P := 13) (ls' := [(0, .ref 139)]) (st' := [.int 1]) (M' := s_M0) rfl ?_
                refine s_ek_ret (o := some (.int 1)) (fun _ => rfl) ?_
                show s_Ek (s_rows 3 L xs) 1299 s_e136.1 32 [(4, .ref 139), (0, .ref 0), (1, .int 0), (2, .int b), (3, .int c)] [.int 1] s_M0 _
                refine s_ek_bk 2 (P := 36) (ls' := [(4, .ref 139), (0, .ref 0), (1, .int 0), (2, .int b), (3, .int c)]) (st' := [.int 0]) (M' := s_M0) rfl ?_
                refine s_ek_ret (o := some (.int 0)) (fun _ => rfl) ?_
                refine ⟨0, rfl, ?_⟩
                show s_Ek (s_rows 3 L xs) 1299 s_e207.1 0 [(0, .ref 151), (1, .int 0), (2, .int b), (3, .int c)] [] s_M0 _
                refine s_ek_bk 1 (P := 1) (ls' := [(0, .ref 151), (1, .int 0), (2, .int b), (3, .int c)]) (st' := [.int 0]) (M' := s_M0) rfl ?_
                refine s_ek_call (ν := s_e281.1) (P := 4) (as := [.int 0]) (r := []) (fun _ => rfl) rfl ?_
                show s_Ek (s_rows 3 L xs) 1298 s_e281.1 0 [(0, .int 0)] [] s_M0 _
                refine s_ek_bk 3 (P := 3) (ls' := [(0, .int 0)]) (st' := [.int 5, .int 0, .int 0]) (M' := s_M0) rfl ?_
                refine s_ek_call (ν := s_e181.1) (P := 6) (as := [.int 0, .int 0, .int 5]) (r := []) (fun _ => rfl) rfl ?_
                show s_Ek (s_rows 3 L xs) 1297 s_e181.1 0 [(0, .int 0), (1, .int 0), (2, .int 5)] [] s_M0 _
                refine s_ek_bk 8 (P := 15) (ls' := [(0, .int 0), (1, .int 0), (2, .int 5)]) (st' := [.int 1]) (M' := s_M0) rfl ?_
                refine s_ek_ret (o := some (.int 1)) (fun _ => rfl) ?_
                show s_Ek (s_rows 3 L xs) 1298 s_e281.1 6 [(0, .int 0)] [.int 1] s_M0 _
                refine s_ek_ret (o := some (.int 1)) (fun _ => rfl) ?_
                show s_Ek (s_rows 3 L xs) 1299 s_e207.1 4 [(0, .ref 151), (1, .int 0), (2, .int b), (3, .int c)] [.int 1] s_M0 _
                refine s_ek_bk 4 (P := 11) (ls' := [(0, .ref 151), (1, .int 0), (2, .int b), (3, .int c)]) (st' := [.int 10, .int 1, .int c]) (M' := s_M0) rfl ?_
                refine s_ek_call (ν := s_e181.1) (P := 14) (as := [.int c, .int 1, .int 10]) (r := []) (fun _ => rfl) rfl ?_
                show s_Ek (s_rows 3 L xs) 1298 s_e181.1 0 [(0, .int c), (1, .int 1), (2, .int 10)] [] s_M0 _
                refine s_ek_bk 2 (P := 2) (ls' := [(0, .int c), (1, .int 1), (2, .int 10)]) (st' := [.int 1, .int c]) (M' := s_M0) rfl ?_
                refine s_ek_if2 (T := 14) rfl rfl (fun h7 => ?_) (fun h7 => ?_)
                · replace h7 : c.toInt < 1 := h7
                  omega
                · replace h7 : ¬ (c.toInt < 1) := h7
                  replace h7 : 1 ≤ c.toInt := by omega
                  refine s_ek_bk 2 (P := 7) (ls' := [(0, .int c), (1, .int 1), (2, .int 10)]) (st' := [.int 10, .int c]) (M' := s_M0) rfl ?_
                  refine s_ek_if2 (T := 14) rfl rfl (fun h8 => ?_) (fun h8 => ?_)
                  · replace h8 : 10 < c.toInt := h8
                    omega
                  · replace h8 : ¬ (10 < c.toInt) := h8
                    replace h8 : c.toInt ≤ 10 := by omega
                    refine s_ek_bk 2 (P := 15) (ls' := [(0, .int c), (1, .int 1), (2, .int 10)]) (st' := [.int 1]) (M' := s_M0) rfl ?_
                    refine s_ek_ret (o := some (.int 1)) (fun _ => rfl) ?_
                    show s_Ek (s_rows 3 L xs) 1299 s_e207.1 14 [(0, .ref 151), (1, .int 0), (2, .int b), (3, .int c)] [.int 1] s_M0 _
                    refine s_ek_bk 14 (P := 54) (ls' := [(0, .ref 151), (1, .int 0), (2, .int b), (3, .int c)]) (st' := [.int 0]) (M' := s_M0) rfl ?_
                    refine s_ek_ret (o := some (.int 0)) (fun _ => rfl) ?_
                    exact rfl
              · refine s_ek_bk 6 (P := 33) (ls' := [(0, .ref 0), (1, .int 1)]) (st' := [.ref 141]) (M' := s_M0) rfl ?_
                refine s_ek_ret (o := some (.ref 141)) (fun _ => rfl) ?_
                show s_Ek (s_rows 3 L xs) 1299 s_e136.1 25 [(0, .ref 0), (1, .int 1), (2, .int b), (3, .int c)] [.ref 141] s_M0 _
                refine s_ek_bk 2 (P := 29) (ls' := [(4, .ref 141), (0, .ref 0), (1, .int 1), (2, .int b), (3, .int c)]) (st' := [.ref 141]) (M' := s_M0) rfl ?_
                refine s_ek_call (ν := s_e84.1) (P := 32) (as := [.ref 141]) (r := []) (fun _ => rfl) rfl ?_
                show s_Ek (s_rows 3 L xs) 1298 s_e84.1 0 [(0, .ref 141)] [] s_M0 _
                refine s_ek_bk 6 (P := 13) (ls' := [(0, .ref 141)]) (st' := [.int 1]) (M' := s_M0) rfl ?_
                refine s_ek_ret (o := some (.int 1)) (fun _ => rfl) ?_
                show s_Ek (s_rows 3 L xs) 1299 s_e136.1 32 [(4, .ref 141), (0, .ref 0), (1, .int 1), (2, .int b), (3, .int c)] [.int 1] s_M0 _
                refine s_ek_bk 2 (P := 36) (ls' := [(4, .ref 141), (0, .ref 0), (1, .int 1), (2, .int b), (3, .int c)]) (st' := [.int 0]) (M' := s_M0) rfl ?_
                refine s_ek_ret (o := some (.int 0)) (fun _ => rfl) ?_
                refine ⟨0, rfl, ?_⟩
                show s_Ek (s_rows 3 L xs) 1299 s_e207.1 0 [(0, .ref 151), (1, .int 1), (2, .int b), (3, .int c)] [] s_M0 _
                refine s_ek_bk 1 (P := 1) (ls' := [(0, .ref 151), (1, .int 1), (2, .int b), (3, .int c)]) (st' := [.int 1]) (M' := s_M0) rfl ?_
                refine s_ek_call (ν := s_e281.1) (P := 4) (as := [.int 1]) (r := []) (fun _ => rfl) rfl ?_
                show s_Ek (s_rows 3 L xs) 1298 s_e281.1 0 [(0, .int 1)] [] s_M0 _
                refine s_ek_bk 3 (P := 3) (ls' := [(0, .int 1)]) (st' := [.int 5, .int 0, .int 1]) (M' := s_M0) rfl ?_
                refine s_ek_call (ν := s_e181.1) (P := 6) (as := [.int 1, .int 0, .int 5]) (r := []) (fun _ => rfl) rfl ?_
                show s_Ek (s_rows 3 L xs) 1297 s_e181.1 0 [(0, .int 1), (1, .int 0), (2, .int 5)] [] s_M0 _
                refine s_ek_bk 8 (P := 15) (ls' := [(0, .int 1), (1, .int 0), (2, .int 5)]) (st' := [.int 1]) (M' := s_M0) rfl ?_
                refine s_ek_ret (o := some (.int 1)) (fun _ => rfl) ?_
                show s_Ek (s_rows 3 L xs) 1298 s_e281.1 6 [(0, .int 1)] [.int 1] s_M0 _
                refine s_ek_ret (o := some (.int 1)) (fun _ => rfl) ?_
                show s_Ek (s_rows 3 L xs) 1299 s_e207.1 4 [(0, .ref 151), (1, .int 1), (2, .int b), (3, .int c)] [.int 1] s_M0 _
                refine s_ek_bk 4 (P := 11) (ls' := [(0, .ref 151), (1, .int 1), (2, .int b), (3, .int c)]) (st' := [.int 10, .int 1, .int c]) (M' := s_M0) rfl ?_
                refine s_ek_call (ν := s_e181.1) (P := 14) (as := [.int c, .int 1, .int 10]) (r := []) (fun _ => rfl) rfl ?_
                show s_Ek (s_rows 3 L xs) 1298 s_e181.1 0 [(0, .int c), (1, .int 1), (2, .int 10)] [] s_M0 _
                refine s_ek_bk 2 (P := 2) (ls' := [(0, .int c), (1, .int 1), (2, .int 10)]) (st' := [.int 1, .int c]) (M' := s_M0) rfl ?_
                refine s_ek_if2 (T := 14) rfl rfl (fun h7 => ?_) (fun h7 => ?_)
                · replace h7 : c.toInt < 1 := h7
                  omega
                · replace h7 : ¬ (c.toInt < 1) := h7
                  replace h7 : 1 ≤ c.toInt := by omega
                  refine s_ek_bk 2 (P := 7) (ls' := [(0, .int c), (1, .int 1), (2, .int 10)]) (st' := [.int 10, .int c]) (M' := s_M0) rfl ?_
                  refine s_ek_if2 (T := 14) rfl rfl (fun h8 => ?_) (fun h8 => ?_)
                  · replace h8 : 10 < c.toInt := h8
                    omega
                  · replace h8 : ¬ (10 < c.toInt) := h8
                    replace h8 : c.toInt ≤ 10 := by omega
                    refine s_ek_bk 2 (P := 15) (ls' := [(0, .int c), (1, .int 1), (2, .int 10)]) (st' := [.int 1]) (M' := s_M0) rfl ?_
                    refine s_ek_ret (o := some (.int 1)) (fun _ => rfl) ?_
                    show s_Ek (s_rows 3 L xs) 1299 s_e207.1 14 [(0, .ref 151), (1, .int 1), (2, .int b), (3, .int c)] [.int 1] s_M0 _
                    refine s_ek_bk 14 (P := 54) (ls' := [(0, .ref 151), (1, .int 1), (2, .int b), (3, .int c)]) (st' := [.int 0]) (M' := s_M0) rfl ?_
                    refine s_ek_ret (o := some (.int 0)) (fun _ => rfl) ?_
                    exact rfl
              · refine s_ek_bk 6 (P := 33) (ls' := [(0, .ref 0), (1, .int 2)]) (st' := [.ref 143]) (M' := s_M0) rfl ?_
                refine s_ek_ret (o := some (.ref 143)) (fun _ => rfl) ?_
                show s_Ek (s_rows 3 L xs) 1299 s_e136.1 25 [(0, .ref 0), (1, .int 2), (2, .int b), (3, .int c)] [.ref 143] s_M0 _
                refine s_ek_bk 2 (P := 29) (ls' := [(4, .ref 143), (0, .ref 0), (1, .int 2), (2, .int b), (3, .int c)]) (st' := [.ref 143]) (M' := s_M0) rfl ?_
                refine s_ek_call (ν := s_e84.1) (P := 32) (as := [.ref 143]) (r := []) (fun _ => rfl) rfl ?_
                show s_Ek (s_rows 3 L xs) 1298 s_e84.1 0 [(0, .ref 143)] [] s_M0 _
                refine s_ek_bk 6 (P := 13) (ls' := [(0, .ref 143)]) (st' := [.int 1]) (M' := s_M0) rfl ?_
                refine s_ek_ret (o := some (.int 1)) (fun _ => rfl) ?_
                show s_Ek (s_rows 3 L xs) 1299 s_e136.1 32 [(4, .ref 143), (0, .ref 0), (1, .int 2), (2, .int b), (3, .int c)] [.int 1] s_M0 _
                refine s_ek_bk 2 (P := 36) (ls' := [(4, .ref 143), (0, .ref 0), (1, .int 2), (2, .int b), (3, .int c)]) (st' := [.int 0]) (M' := s_M0) rfl ?_
                refine s_ek_ret (o := some (.int 0)) (fun _ => rfl) ?_
                refine ⟨0, rfl, ?_⟩
                show s_Ek (s_rows 3 L xs) 1299 s_e207.1 0 [(0, .ref 151), (1, .int 2), (2, .int b), (3, .int c)] [] s_M0 _
                refine s_ek_bk 1 (P := 1) (ls' := [(0, .ref 151), (1, .int 2), (2, .int b), (3, .int c)]) (st' := [.int 2]) (M' := s_M0) rfl ?_
                refine s_ek_call (ν := s_e281.1) (P := 4) (as := [.int 2]) (r := []) (fun _ => rfl) rfl ?_
                show s_Ek (s_rows 3 L xs) 1298 s_e281.1 0 [(0, .int 2)] [] s_M0 _
                refine s_ek_bk 3 (P := 3) (ls' := [(0, .int 2)]) (st' := [.int 5, .int 0, .int 2]) (M' := s_M0) rfl ?_
                refine s_ek_call (ν := s_e181.1) (P := 6) (as := [.int 2, .int 0, .int 5]) (r := []) (fun _ => rfl) rfl ?_
                show s_Ek (s_rows 3 L xs) 1297 s_e181.1 0 [(0, .int 2), (1, .int 0), (2, .int 5)] [] s_M0 _
                refine s_ek_bk 8 (P := 15) (ls' := [(0, .int 2), (1, .int 0), (2, .int 5)]) (st' := [.int 1]) (M' := s_M0) rfl ?_
                refine s_ek_ret (o := some (.int 1)) (fun _ => rfl) ?_
                show s_Ek (s_rows 3 L xs) 1298 s_e281.1 6 [(0, .int 2)] [.int 1] s_M0 _
                refine s_ek_ret (o := some (.int 1)) (fun _ => rfl) ?_
                show s_Ek (s_rows 3 L xs) 1299 s_e207.1 4 [(0, .ref 151), (1, .int 2), (2, .int b), (3, .int c)] [.int 1] s_M0 _
                refine s_ek_bk 4 (P := 11) (ls' := [(0, .ref 151), (1, .int 2), (2, .int b), (3, .int c)]) (st' := [.int 10, .int 1, .int c]) (M' := s_M0) rfl ?_
                refine s_ek_call (ν := s_e181.1) (P := 14) (as := [.int c, .int 1, .int 10]) (r := []) (fun _ => rfl) rfl ?_
                show s_Ek (s_rows 3 L xs) 1298 s_e181.1 0 [(0, .int c), (1, .int 1), (2, .int 10)] [] s_M0 _
                refine s_ek_bk 2 (P := 2) (ls' := [(0, .int c), (1, .int 1), (2, .int 10)]) (st' := [.int 1, .int c]) (M' := s_M0) rfl ?_
                refine s_ek_if2 (T := 14) rfl rfl (fun h7 => ?_) (fun h7 => ?_)
                · replace h7 : c.toInt < 1 := h7
                  omega
                · replace h7 : ¬ (c.toInt < 1) := h7
                  replace h7 : 1 ≤ c.toInt := by omega
                  refine s_ek_bk 2 (P := 7) (ls' := [(0, .int c), (1, .int 1), (2, .int 10)]) (st' := [.int 10, .int c]) (M' := s_M0) rfl ?_
                  refine s_ek_if2 (T := 14) rfl rfl (fun h8 => ?_) (fun h8 => ?_)
                  · replace h8 : 10 < c.toInt := h8
                    omega
                  · replace h8 : ¬ (10 < c.toInt) := h8
                    replace h8 : c.toInt ≤ 10 := by omega
                    refine s_ek_bk 2 (P := 15) (ls' := [(0, .int c), (1, .int 1), (2, .int 10)]) (st' := [.int 1]) (M' := s_M0) rfl ?_
                    refine s_ek_ret (o := some (.int 1)) (fun _ => rfl) ?_
                    show s_Ek (s_rows 3 L xs) 1299 s_e207.1 14 [(0, .ref 151), (1, .int 2), (2, .int b), (3, .int c)] [.int 1] s_M0 _
                    refine s_ek_bk 14 (P := 54) (ls' := [(0, .ref 151), (1, .int 2), (2, .int b), (3, .int c)]) (st' := [.int 0]) (M' := s_M0) rfl ?_
                    refine s_ek_ret (o := some (.int 0)) (fun _ => rfl) ?_
                    exact rfl
              · refine s_ek_bk 6 (P := 33) (ls' := [(0, .ref 0), (1, .int 3)]) (st' := [.ref 145]) (M' := s_M0) rfl ?_
                refine s_ek_ret (o := some (.ref 145)) (fun _ => rfl) ?_
                show s_Ek (s_rows 3 L xs) 1299 s_e136.1 25 [(0, .ref 0), (1, .int 3), (2, .int b), (3, .int c)] [.ref 145] s_M0 _
                refine s_ek_bk 2 (P := 29) (ls' := [(4, .ref 145), (0, .ref 0), (1, .int 3), (2, .int b), (3, .int c)]) (st' := [.ref 145]) (M' := s_M0) rfl ?_
                refine s_ek_call (ν := s_e84.1) (P := 32) (as := [.ref 145]) (r := []) (fun _ => rfl) rfl ?_
                show s_Ek (s_rows 3 L xs) 1298 s_e84.1 0 [(0, .ref 145)] [] s_M0 _
                refine s_ek_bk 6 (P := 13) (ls' := [(0, .ref 145)]) (st' := [.int 1]) (M' := s_M0) rfl ?_
                refine s_ek_ret (o := some (.int 1)) (fun _ => rfl) ?_
                show s_Ek (s_rows 3 L xs) 1299 s_e136.1 32 [(4, .ref 145), (0, .ref 0), (1, .int 3), (2, .int b), (3, .int c)] [.int 1] s_M0 _
                refine s_ek_bk 2 (P := 36) (ls' := [(4, .ref 145), (0, .ref 0), (1, .int 3), (2, .int b), (3, .int c)]) (st' := [.int 0]) (M' := s_M0) rfl ?_
                refine s_ek_ret (o := some (.int 0)) (fun _ => rfl) ?_
                refine ⟨0, rfl, ?_⟩
                show s_Ek (s_rows 3 L xs) 1299 s_e207.1 0 [(0, .ref 151), (1, .int 3), (2, .int b), (3, .int c)] [] s_M0 _
                refine s_ek_bk 1 (P := 1) (ls' := [(0, .ref 151), (1, .int 3), (2, .int b), (3, .int c)]) (st' := [.int 3]) (M' := s_M0) rfl ?_
                refine s_ek_call (ν := s_e281.1) (P := 4) (as := [.int 3]) (r := []) (fun _ => rfl) rfl ?_
                show s_Ek (s_rows 3 L xs) 1298 s_e281.1 0 [(0, .int 3)] [] s_M0 _
                refine s_ek_bk 3 (P := 3) (ls' := [(0, .int 3)]) (st' := [.int 5, .int 0, .int 3]) (M' := s_M0) rfl ?_
                refine s_ek_call (ν := s_e181.1) (P := 6) (as := [.int 3, .int 0, .int 5]) (r := []) (fun _ => rfl) rfl ?_
                show s_Ek (s_rows 3 L xs) 1297 s_e181.1 0 [(0, .int 3), (1, .int 0), (2, .int 5)] [] s_M0 _
                refine s_ek_bk 8 (P := 15) (ls' := [(0, .int 3), (1, .int 0), (2, .int 5)]) (st' := [.int 1]) (M' := s_M0) rfl ?_
                refine s_ek_ret (o := some (.int 1)) (fun _ => rfl) ?_
                show s_Ek (s_rows 3 L xs) 1298 s_e281.1 6 [(0, .int 3)] [.int 1] s_M0 _
                refine s_ek_ret (o := some (.int 1)) (fun _ => rfl) ?_
                show s_Ek (s_rows 3 L xs) 1299 s_e207.1 4 [(0, .ref 151), (1, .int 3), (2, .int b), (3, .int c)] [.int 1] s_M0 _
                refine s_ek_bk 4 (P := 11) (ls' := [(0, .ref 151), (1, .int 3), (2, .int b), (3, .int c)]) (st' := [.int 10, .int 1, .int c]) (M' := s_M0) rfl ?_
                refine s_ek_call (ν := s_e181.1) (P := 14) (as := [.int c, .int 1, .int 10]) (r := []) (fun _ => rfl) rfl ?_
                show s_Ek (s_rows 3 L xs) 1298 s_e181.1 0 [(0, .int c), (1, .int 1), (2, .int 10)] [] s_M0 _
                refine s_ek_bk 2 (P := 2) (ls' := [(0, .int c), (1, .int 1), (2, .int 10)]) (st' := [.int 1, .int c]) (M' := s_M0) rfl ?_
                refine s_ek_if2 (T := 14) rfl rfl (fun h7 => ?_) (fun h7 => ?_)
                · replace h7 : c.toInt < 1 := h7
                  omega
                · replace h7 : ¬ (c.toInt < 1) := h7
                  replace h7 : 1 ≤ c.toInt := by omega
                  refine s_ek_bk 2 (P := 7) (ls' := [(0, .int c), (1, .int 1), (2, .int 10)]) (st' := [.int 10, .int c]) (M' := s_M0) rfl ?_
                  refine s_ek_if2 (T := 14) rfl rfl (fun h8 => ?_) (fun h8 => ?_)
                  · replace h8 : 10 < c.toInt := h8
                    omega
                  · replace h8 : ¬ (10 < c.toInt) := h8
                    replace h8 : c.toInt ≤ 10 := by omega
                    refine s_ek_bk 2 (P := 15) (ls' := [(0, .int c), (1, .int 1), (2, .int 10)]) (st' := [.int 1]) (M' := s_M0) rfl ?_
                    refine s_ek_ret (o := some (.int 1)) (fun _ => rfl) ?_
                    show s_Ek (s_rows 3 L xs) 1299 s_e207.1 14 [(0, .ref 151), (1, .int 3), (2, .int b), (3, .int c)] [.int 1] s_M0 _
                    refine s_ek_bk 14 (P := 54) (ls' := [(0, .ref 151), (1, .int 3), (2, .int b), (3, .int c)]) (st' := [.int 0]) (M' := s_M0) rfl ?_
                    refine s_ek_ret (o := some (.int 0)) (fun _ => rfl) ?_
                    exact rfl
              · refine s_ek_bk 6 (P := 33) (ls' := [(0, .ref 0), (1, .int 4)]) (st' := [.ref 147]) (M' := s_M0) rfl ?_
                refine s_ek_ret (o := some (.ref 147)) (fun _ => rfl) ?_
                show s_Ek (s_rows 3 L xs) 1299 s_e136.1 25 [(0, .ref 0), (1, .int 4), (2, .int b), (3, .int c)] [.ref 147] s_M0 _
                refine s_ek_bk 2 (P := 29) (ls' := [(4, .ref 147), (0, .ref 0), (1, .int 4), (2, .int b), (3, .int c)]) (st' := [.ref 147]) (M' := s_M0) rfl ?_
                refine s_ek_call (ν := s_e84.1) (P := 32) (as := [.ref 147]) (r := []) (fun _ => rfl) rfl ?_
                show s_Ek (s_rows 3 L xs) 1298 s_e84.1 0 [(0, .ref 147)] [] s_M0 _
                refine s_ek_bk 6 (P := 13) (ls' := [(0, .ref 147)]) (st' := [.int 1]) (M' := s_M0) rfl ?_
                refine s_ek_ret (o := some (.int 1)) (fun _ => rfl) ?_
                show s_Ek (s_rows 3 L xs) 1299 s_e136.1 32 [(4, .ref 147), (0, .ref 0), (1, .int 4), (2, .int b), (3, .int c)] [.int 1] s_M0 _
                refine s_ek_bk 2 (P := 36) (ls' := [(4, .ref 147), (0, .ref 0), (1, .int 4), (2, .int b), (3, .int c)]) (st' := [.int 0]) (M' := s_M0) rfl ?_
                refine s_ek_ret (o := some (.int 0)) (fun _ => rfl) ?_
                refine ⟨0, rfl, ?_⟩
                show s_Ek (s_rows 3 L xs) 1299 s_e207.1 0 [(0, .ref 151), (1, .int 4), (2, .int b), (3, .int c)] [] s_M0 _
                refine s_ek_bk 1 (P := 1) (ls' := [(0, .ref 151), (1, .int 4), (2, .int b), (3, .int c)]) (st' := [.int 4]) (M' := s_M0) rfl ?_
                refine s_ek_call (ν := s_e281.1) (P := 4) (as := [.int 4]) (r := []) (fun _ => rfl) rfl ?_
                show s_Ek (s_rows 3 L xs) 1298 s_e281.1 0 [(0, .int 4)] [] s_M0 _
                refine s_ek_bk 3 (P := 3) (ls' := [(0, .int 4)]) (st' := [.int 5, .int 0, .int 4]) (M' := s_M0) rfl ?_
                refine s_ek_call (ν := s_e181.1) (P := 6) (as := [.int 4, .int 0, .int 5]) (r := []) (fun _ => rfl) rfl ?_
                show s_Ek (s_rows 3 L xs) 1297 s_e181.1 0 [(0, .int 4), (1, .int 0), (2, .int 5)] [] s_M0 _
                refine s_ek_bk 8 (P := 15) (ls' := [(0, .int 4), (1, .int 0), (2, .int 5)]) (st' := [.int 1]) (M' := s_M0) rfl ?_
                refine s_ek_ret (o := some (.int 1)) (fun _ => rfl) ?_
                show s_Ek (s_rows 3 L xs) 1298 s_e281.1 6 [(0, .int 4)] [.int 1] s_M0 _
                refine s_ek_ret (o := some (.int 1)) (fun _ => rfl) ?_
                show s_Ek (s_rows 3 L xs) 1299 s_e207.1 4 [(0, .ref 151), (1, .int 4), (2, .int b), (3, .int c)] [.int 1] s_M0 _
                refine s_ek_bk 4 (P := 11) (ls' := [(0, .ref 151), (1, .int 4), (2, .int b), (3, .int c)]) (st' := [.int 10, .int 1, .int c]) (M' := s_M0) rfl ?_
                refine s_ek_call (ν := s_e181.1) (P := 14) (as := [.int c, .int 1, .int 10]) (r := []) (fun _ => rfl) rfl ?_
                show s_Ek (s_rows 3 L xs) 1298 s_e181.1 0 [(0, .int c), (1, .int 1), (2, .int 10)] [] s_M0 _
                refine s_ek_bk 2 (P := 2) (ls' := [(0, .int c), (1, .int 1), (2, .int 10)]) (st' := [.int 1, .int c]) (M' := s_M0) rfl ?_
                refine s_ek_if2 (T := 14) rfl rfl (fun h7 => ?_) (fun h7 => ?_)
                · replace h7 : c.toInt < 1 := h7
                  omega
                · replace h7 : ¬ (c.toInt < 1) := h7
                  replace h7 : 1 ≤ c.toInt := by omega
                  refine s_ek_bk 2 (P := 7) (ls' := [(0, .int c), (1, .int 1), (2, .int 10)]) (st' := [.int 10, .int c]) (M' := s_M0) rfl ?_
                  refine s_ek_if2 (T := 14) rfl rfl (fun h8 => ?_) (fun h8 => ?_)
                  · replace h8 : 10 < c.toInt := h8
                    omega
                  · replace h8 : ¬ (10 < c.toInt) := h8
                    replace h8 : c.toInt ≤ 10 := by omega
                    refine s_ek_bk 2 (P := 15) (ls' := [(0, .int c), (1, .int 1), (2, .int 10)]) (st' := [.int 1]) (M' := s_M0) rfl ?_
                    refine s_ek_ret (o := some (.int 1)) (fun _ => rfl) ?_
                    show s_Ek (s_rows 3 L xs) 1299 s_e207.1 14 [(0, .ref 151), (1, .int 4), (2, .int b), (3, .int c)] [.int 1] s_M0 _
                    refine s_ek_bk 14 (P := 54) (ls' := [(0, .ref 151), (1, .int 4), (2, .int b), (3, .int c)]) (st' := [.int 0]) (M' := s_M0) rfl ?_
                    refine s_ek_ret (o := some (.int 0)) (fun _ => rfl) ?_
                    exact rfl
              · refine s_ek_bk 6 (P := 33) (ls' := [(0, .ref 0), (1, .int 5)]) (st' := [.ref 149]) (M' := s_M0) rfl ?_
                refine s_ek_ret (o := some (.ref 149)) (fun _ => rfl) ?_
                show s_Ek (s_rows 3 L xs) 1299 s_e136.1 25 [(0, .ref 0), (1, .int 5), (2, .int b), (3, .int c)] [.ref 149] s_M0 _
                refine s_ek_bk 2 (P := 29) (ls' := [(4, .ref 149), (0, .ref 0), (1, .int 5), (2, .int b), (3, .int c)]) (st' := [.ref 149]) (M' := s_M0) rfl ?_
                refine s_ek_call (ν := s_e84.1) (P := 32) (as := [.ref 149]) (r := []) (fun _ => rfl) rfl ?_
                show s_Ek (s_rows 3 L xs) 1298 s_e84.1 0 [(0, .ref 149)] [] s_M0 _
                refine s_ek_bk 6 (P := 13) (ls' := [(0, .ref 149)]) (st' := [.int 1]) (M' := s_M0) rfl ?_
                refine s_ek_ret (o := some (.int 1)) (fun _ => rfl) ?_
                show s_Ek (s_rows 3 L xs) 1299 s_e136.1 32 [(4, .ref 149), (0, .ref 0), (1, .int 5), (2, .int b), (3, .int c)] [.int 1] s_M0 _
                refine s_ek_bk 2 (P := 36) (ls' := [(4, .ref 149), (0, .ref 0), (1, .int 5), (2, .int b), (3, .int c)]) (st' := [.int 0]) (M' := s_M0) rfl ?_
                refine s_ek_ret (o := some (.int 0)) (fun _ => rfl) ?_
                refine ⟨0, rfl, ?_⟩
                show s_Ek (s_rows 3 L xs) 1299 s_e207.1 0 [(0, .ref 151), (1, .int 5), (2, .int b), (3, .int c)] [] s_M0 _
                refine s_ek_bk 1 (P := 1) (ls' := [(0, .ref 151), (1, .int 5), (2, .int b), (3, .int c)]) (st' := [.int 5]) (M' := s_M0) rfl ?_
                refine s_ek_call (ν := s_e281.1) (P := 4) (as := [.int 5]) (r := []) (fun _ => rfl) rfl ?_
                show s_Ek (s_rows 3 L xs) 1298 s_e281.1 0 [(0, .int 5)] [] s_M0 _
                refine s_ek_bk 3 (P := 3) (ls' := [(0, .int 5)]) (st' := [.int 5, .int 0, .int 5]) (M' := s_M0) rfl ?_
                refine s_ek_call (ν := s_e181.1) (P := 6) (as := [.int 5, .int 0, .int 5]) (r := []) (fun _ => rfl) rfl ?_
                show s_Ek (s_rows 3 L xs) 1297 s_e181.1 0 [(0, .int 5), (1, .int 0), (2, .int 5)] [] s_M0 _
                refine s_ek_bk 8 (P := 15) (ls' := [(0, .int 5), (1, .int 0), (2, .int 5)]) (st' := [.int 1]) (M' := s_M0) rfl ?_
                refine s_ek_ret (o := some (.int 1)) (fun _ => rfl) ?_
                show s_Ek (s_rows 3 L xs) 1298 s_e281.1 6 [(0, .int 5)] [.int 1] s_M0 _
                refine s_ek_ret (o := some (.int 1)) (fun _ => rfl) ?_
                show s_Ek (s_rows 3 L xs) 1299 s_e207.1 4 [(0, .ref 151), (1, .int 5), (2, .int b), (3, .int c)] [.int 1] s_M0 _
                refine s_ek_bk 4 (P := 11) (ls' := [(0, .ref 151), (1, .int 5), (2, .int b), (3, .int c)]) (st' := [.int 10, .int 1, .int c]) (M' := s_M0) rfl ?_
                refine s_ek_call (ν := s_e181.1) (P := 14) (as := [.int c, .int 1, .int 10]) (r := []) (fun _ => rfl) rfl ?_
                show s_Ek (s_rows 3 L xs) 1298 s_e181.1 0 [(0, .int c), (1, .int 1), (2, .int 10)] [] s_M0 _
                refine s_ek_bk 2 (P := 2) (ls' := [(0, .int c), (1, .int 1), (2, .int 10)]) (st' := [.int 1, .int c]) (M' := s_M0) rfl ?_
                refine s_ek_if2 (T := 14) rfl rfl (fun h7 => ?_) (fun h7 => ?_)
                · replace h7 : c.toInt < 1 := h7
                  omega
                · replace h7 : ¬ (c.toInt < 1) := h7
                  replace h7 : 1 ≤ c.toInt := by omega
                  refine s_ek_bk 2 (P := 7) (ls' := [(0, .int c), (1, .int 1), (2, .int 10)]) (st' := [.int 10, .int c]) (M' := s_M0) rfl ?_
                  refine s_ek_if2 (T := 14) rfl rfl (fun h8 => ?_) (fun h8 => ?_)
                  · replace h8 : 10 < c.toInt := h8
                    omega
                  · replace h8 : ¬ (10 < c.toInt) := h8
                    replace h8 : c.toInt ≤ 10 := by omega
                    refine s_ek_bk 2 (P := 15) (ls' := [(0, .int c), (1, .int 1), (2, .int 10)]) (st' := [.int 1]) (M' := s_M0) rfl ?_
                    refine s_ek_ret (o := some (.int 1)) (fun _ => rfl) ?_
                    show s_Ek (s_rows 3 L xs) 1299 s_e207.1 14 [(0, .ref 151), (1, .int 5), (2, .int b), (3, .int c)] [.int 1] s_M0 _
                    refine s_ek_bk 14 (P := 54) (ls' := [(0, .ref 151), (1, .int 5), (2, .int b), (3, .int c)]) (st' := [.int 0]) (M' := s_M0) rfl ?_
                    refine s_ek_ret (o := some (.int 0)) (fun _ => rfl) ?_
                    exact rfl
        · replace h4 : ¬ (c.toInt ≤ 10) := h4
          replace h4 : 10 < c.toInt := by omega
          refine s_ek_bk 1 (P := 19) (ls' := [(0, .ref 0), (1, .int a), (2, .int b), (3, .int c)]) (st' := [.int (-1)]) (M' := s_M0) rfl ?_
          refine s_ek_ret (o := some (.int (-1))) (fun _ => rfl) ?_
          refine ⟨(-1), rfl, ?_⟩
          show s_Ek (s_rows 3 L xs) 1299 s_e207.1 0 [(0, .ref 151), (1, .int a), (2, .int b), (3, .int c)] [] s_M0 _
          refine s_ek_bk 1 (P := 1) (ls' := [(0, .ref 151), (1, .int a), (2, .int b), (3, .int c)]) (st' := [.int a]) (M' := s_M0) rfl ?_
          refine s_ek_call (ν := s_e281.1) (P := 4) (as := [.int a]) (r := []) (fun _ => rfl) rfl ?_
          show s_Ek (s_rows 3 L xs) 1298 s_e281.1 0 [(0, .int a)] [] s_M0 _
          refine s_ek_bk 3 (P := 3) (ls' := [(0, .int a)]) (st' := [.int 5, .int 0, .int a]) (M' := s_M0) rfl ?_
          refine s_ek_call (ν := s_e181.1) (P := 6) (as := [.int a, .int 0, .int 5]) (r := []) (fun _ => rfl) rfl ?_
          show s_Ek (s_rows 3 L xs) 1297 s_e181.1 0 [(0, .int a), (1, .int 0), (2, .int 5)] [] s_M0 _
          refine s_ek_bk 2 (P := 2) (ls' := [(0, .int a), (1, .int 0), (2, .int 5)]) (st' := [.int 0, .int a]) (M' := s_M0) rfl ?_
          refine s_ek_if2 (T := 14) rfl rfl (fun h5 => ?_) (fun h5 => ?_)
          · replace h5 : a.toInt < 0 := h5
            omega
          · replace h5 : ¬ (a.toInt < 0) := h5
            replace h5 : 0 ≤ a.toInt := by omega
            refine s_ek_bk 2 (P := 7) (ls' := [(0, .int a), (1, .int 0), (2, .int 5)]) (st' := [.int 5, .int a]) (M' := s_M0) rfl ?_
            refine s_ek_if2 (T := 14) rfl rfl (fun h6 => ?_) (fun h6 => ?_)
            · replace h6 : 5 < a.toInt := h6
              omega
            · replace h6 : ¬ (5 < a.toInt) := h6
              replace h6 : a.toInt ≤ 5 := by omega
              refine s_ek_bk 2 (P := 15) (ls' := [(0, .int a), (1, .int 0), (2, .int 5)]) (st' := [.int 1]) (M' := s_M0) rfl ?_
              refine s_ek_ret (o := some (.int 1)) (fun _ => rfl) ?_
              show s_Ek (s_rows 3 L xs) 1298 s_e281.1 6 [(0, .int a)] [.int 1] s_M0 _
              refine s_ek_ret (o := some (.int 1)) (fun _ => rfl) ?_
              show s_Ek (s_rows 3 L xs) 1299 s_e207.1 4 [(0, .ref 151), (1, .int a), (2, .int b), (3, .int c)] [.int 1] s_M0 _
              refine s_ek_bk 4 (P := 11) (ls' := [(0, .ref 151), (1, .int a), (2, .int b), (3, .int c)]) (st' := [.int 10, .int 1, .int c]) (M' := s_M0) rfl ?_
              refine s_ek_call (ν := s_e181.1) (P := 14) (as := [.int c, .int 1, .int 10]) (r := []) (fun _ => rfl) rfl ?_
              show s_Ek (s_rows 3 L xs) 1298 s_e181.1 0 [(0, .int c), (1, .int 1), (2, .int 10)] [] s_M0 _
              refine s_ek_bk 2 (P := 2) (ls' := [(0, .int c), (1, .int 1), (2, .int 10)]) (st' := [.int 1, .int c]) (M' := s_M0) rfl ?_
              refine s_ek_if2 (T := 14) rfl rfl (fun h7 => ?_) (fun h7 => ?_)
              · replace h7 : c.toInt < 1 := h7
                omega
              · replace h7 : ¬ (c.toInt < 1) := h7
                replace h7 : 1 ≤ c.toInt := by omega
                refine s_ek_bk 2 (P := 7) (ls' := [(0, .int c), (1, .int 1), (2, .int 10)]) (st' := [.int 10, .int c]) (M' := s_M0) rfl ?_
                refine s_ek_if2 (T := 14) rfl rfl (fun h8 => ?_) (fun h8 => ?_)
                · replace h8 : 10 < c.toInt := h8
                  refine s_ek_bk 1 (P := 15) (ls' := [(0, .int c), (1, .int 1), (2, .int 10)]) (st' := [.int 0]) (M' := s_M0) rfl ?_
                  refine s_ek_ret (o := some (.int 0)) (fun _ => rfl) ?_
                  show s_Ek (s_rows 3 L xs) 1299 s_e207.1 14 [(0, .ref 151), (1, .int a), (2, .int b), (3, .int c)] [.int 0] s_M0 _
                  refine s_ek_bk 2 (P := 18) (ls' := [(0, .ref 151), (1, .int a), (2, .int b), (3, .int c)]) (st' := [.int (-1)]) (M' := s_M0) rfl ?_
                  refine s_ek_ret (o := some (.int (-1))) (fun _ => rfl) ?_
                  exact rfl
                · replace h8 : ¬ (10 < c.toInt) := h8
                  replace h8 : c.toInt ≤ 10 := by omega
                  omega
set_option maxHeartbeats 20000000 in
set_option maxRecDepth 100000 in
theorem s_op_speaks (L : Nat) (xs : Nat → Int32) (a : Int32) (b : Int32) : s_Ek (s_rows 3 L xs) 1299 s_e143.1 0 (lv_args 0 [.ref 0, .int a, .int b]) [] s_M0 (fun v M1 => ∃ r : Int32, v = some (.int r) ∧ s_Ek (s_rows 3 L xs) 1299 s_e234.1 0 (lv_args 0 [.ref 151, .int a, .int b]) [] M1 (fun w _ => w = some (.int r))) := by
  show s_Ek (s_rows 3 L xs) 1299 s_e143.1 0 [(0, .ref 0), (1, .int a), (2, .int b)] [] s_M0 _
  refine s_ek_bk 1 (P := 1) (ls' := [(0, .ref 0), (1, .int a), (2, .int b)]) (st' := [.int b]) (M' := s_M0) rfl ?_
  refine s_ek_call (ν := s_e2.1) (P := 4) (as := [.int b]) (r := []) (fun _ => rfl) rfl ?_
  show s_Ek (s_rows 3 L xs) 1298 s_e2.1 0 [(0, .int b)] [] s_M0 _
  refine s_ek_bk 1 (P := 1) (ls' := [(0, .int b)]) (st' := [.int b]) (M' := s_M0) rfl ?_
  refine s_ek_if1 (T := 30) rfl rfl (fun h1 => ?_) (fun h1 => ?_)
  · replace h1 : b.toInt < 0 := h1
    refine s_ek_bk 1 (P := 31) (ls' := [(0, .int b)]) (st' := [.int (-1)]) (M' := s_M0) rfl ?_
    refine s_ek_ret (o := some (.int (-1))) (fun _ => rfl) ?_
    show s_Ek (s_rows 3 L xs) 1299 s_e143.1 4 [(0, .ref 0), (1, .int a), (2, .int b)] [.int (-1)] s_M0 _
    refine s_ek_bk 4 (P := 10) (ls' := [(3, .int (-1)), (0, .ref 0), (1, .int a), (2, .int b)]) (st' := [.int a, .ref 8]) (M' := s_M0) rfl ?_
    refine s_ek_call (ν := s_e40.1) (P := 13) (as := [.ref 8, .int a]) (r := []) (fun _ => rfl) rfl ?_
    show s_Ek (s_rows 3 L xs) 1298 s_e40.1 0 [(0, .ref 8), (1, .int a)] [] s_M0 _
    refine s_ek_bk 1 (P := 1) (ls' := [(0, .ref 8), (1, .int a)]) (st' := [.int a]) (M' := s_M0) rfl ?_
    refine s_ek_if1 (T := 16) rfl rfl (fun h2 => ?_) (fun h2 => ?_)
    · replace h2 : a.toInt < 0 := h2
      refine s_ek_bk 1 (P := 17) (ls' := [(0, .ref 8), (1, .int a)]) (st' := [.int 0]) (M' := s_M0) rfl ?_
      refine s_ek_ret (o := some (.int 0)) (fun _ => rfl) ?_
      show s_Ek (s_rows 3 L xs) 1299 s_e143.1 13 [(3, .int (-1)), (0, .ref 0), (1, .int a), (2, .int b)] [.int 0] s_M0 _
      refine s_ek_bk 2 (P := 21) (ls' := [(3, .int (-1)), (0, .ref 0), (1, .int a), (2, .int b)]) (st' := [.int (-1)]) (M' := s_M0) rfl ?_
      refine s_ek_ret (o := some (.int (-1))) (fun _ => rfl) ?_
      refine ⟨(-1), rfl, ?_⟩
      show s_Ek (s_rows 3 L xs) 1299 s_e234.1 0 [(0, .ref 151), (1, .int a), (2, .int b)] [] s_M0 _
      refine s_ek_bk 2 (P := 2) (ls' := [(0, .ref 151), (1, .int a), (2, .int b)]) (st' := [.int a, .ref 151]) (M' := s_M0) rfl ?_
      refine s_ek_call (ν := s_e201.1) (P := 5) (as := [.ref 151, .int a]) (r := []) (fun _ => rfl) rfl ?_
      show s_Ek (s_rows 3 L xs) 1298 s_e201.1 0 [(0, .ref 151), (1, .int a)] [] s_M0 _
      refine s_ek_bk 6 (P := 8) (ls' := [(0, .ref 151), (1, .int a)]) (st' := [.int (-1), .int 0, .int a]) (M' := s_M0) rfl ?_
      refine s_ek_call (ν := s_e181.1) (P := 11) (as := [.int a, .int 0, .int (-1)]) (r := []) (fun _ => rfl) rfl ?_
      show s_Ek (s_rows 3 L xs) 1297 s_e181.1 0 [(0, .int a), (1, .int 0), (2, .int (-1))] [] s_M0 _
      refine s_ek_bk 2 (P := 2) (ls' := [(0, .int a), (1, .int 0), (2, .int (-1))]) (st' := [.int 0, .int a]) (M' := s_M0) rfl ?_
      refine s_ek_if2 (T := 14) rfl rfl (fun h3 => ?_) (fun h3 => ?_)
      · replace h3 : a.toInt < 0 := h3
        refine s_ek_bk 1 (P := 15) (ls' := [(0, .int a), (1, .int 0), (2, .int (-1))]) (st' := [.int 0]) (M' := s_M0) rfl ?_
        refine s_ek_ret (o := some (.int 0)) (fun _ => rfl) ?_
        show s_Ek (s_rows 3 L xs) 1298 s_e201.1 11 [(0, .ref 151), (1, .int a)] [.int 0] s_M0 _
        refine s_ek_ret (o := some (.int 0)) (fun _ => rfl) ?_
        show s_Ek (s_rows 3 L xs) 1299 s_e234.1 5 [(0, .ref 151), (1, .int a), (2, .int b)] [.int 0] s_M0 _
        refine s_ek_bk 2 (P := 16) (ls' := [(0, .ref 151), (1, .int a), (2, .int b)]) (st' := [.int (-1)]) (M' := s_M0) rfl ?_
        refine s_ek_ret (o := some (.int (-1))) (fun _ => rfl) ?_
        exact rfl
      · replace h3 : ¬ (a.toInt < 0) := h3
        replace h3 : 0 ≤ a.toInt := by omega
        omega
    · replace h2 : ¬ (a.toInt < 0) := h2
      replace h2 : 0 ≤ a.toInt := by omega
      refine s_ek_bk 3 (P := 9) (ls' := [(0, .ref 8), (1, .int a)]) (st' := [.int 0, .int a]) (M' := s_M0) rfl ?_
      refine s_ek_if2 (T := 16) rfl rfl (fun h3 => ?_) (fun h3 => ?_)
      · replace h3 : 0 ≤ a.toInt := h3
        refine s_ek_bk 1 (P := 17) (ls' := [(0, .ref 8), (1, .int a)]) (st' := [.int 0]) (M' := s_M0) rfl ?_
        refine s_ek_ret (o := some (.int 0)) (fun _ => rfl) ?_
        show s_Ek (s_rows 3 L xs) 1299 s_e143.1 13 [(3, .int (-1)), (0, .ref 0), (1, .int a), (2, .int b)] [.int 0] s_M0 _
        refine s_ek_bk 2 (P := 21) (ls' := [(3, .int (-1)), (0, .ref 0), (1, .int a), (2, .int b)]) (st' := [.int (-1)]) (M' := s_M0) rfl ?_
        refine s_ek_ret (o := some (.int (-1))) (fun _ => rfl) ?_
        refine ⟨(-1), rfl, ?_⟩
        show s_Ek (s_rows 3 L xs) 1299 s_e234.1 0 [(0, .ref 151), (1, .int a), (2, .int b)] [] s_M0 _
        refine s_ek_bk 2 (P := 2) (ls' := [(0, .ref 151), (1, .int a), (2, .int b)]) (st' := [.int a, .ref 151]) (M' := s_M0) rfl ?_
        refine s_ek_call (ν := s_e201.1) (P := 5) (as := [.ref 151, .int a]) (r := []) (fun _ => rfl) rfl ?_
        show s_Ek (s_rows 3 L xs) 1298 s_e201.1 0 [(0, .ref 151), (1, .int a)] [] s_M0 _
        refine s_ek_bk 6 (P := 8) (ls' := [(0, .ref 151), (1, .int a)]) (st' := [.int (-1), .int 0, .int a]) (M' := s_M0) rfl ?_
        refine s_ek_call (ν := s_e181.1) (P := 11) (as := [.int a, .int 0, .int (-1)]) (r := []) (fun _ => rfl) rfl ?_
        show s_Ek (s_rows 3 L xs) 1297 s_e181.1 0 [(0, .int a), (1, .int 0), (2, .int (-1))] [] s_M0 _
        refine s_ek_bk 2 (P := 2) (ls' := [(0, .int a), (1, .int 0), (2, .int (-1))]) (st' := [.int 0, .int a]) (M' := s_M0) rfl ?_
        refine s_ek_if2 (T := 14) rfl rfl (fun h4 => ?_) (fun h4 => ?_)
        · replace h4 : a.toInt < 0 := h4
          omega
        · replace h4 : ¬ (a.toInt < 0) := h4
          replace h4 : 0 ≤ a.toInt := by omega
          refine s_ek_bk 2 (P := 7) (ls' := [(0, .int a), (1, .int 0), (2, .int (-1))]) (st' := [.int (-1), .int a]) (M' := s_M0) rfl ?_
          refine s_ek_if2 (T := 14) rfl rfl (fun h5 => ?_) (fun h5 => ?_)
          · replace h5 : (-1) < a.toInt := h5
            refine s_ek_bk 1 (P := 15) (ls' := [(0, .int a), (1, .int 0), (2, .int (-1))]) (st' := [.int 0]) (M' := s_M0) rfl ?_
            refine s_ek_ret (o := some (.int 0)) (fun _ => rfl) ?_
            show s_Ek (s_rows 3 L xs) 1298 s_e201.1 11 [(0, .ref 151), (1, .int a)] [.int 0] s_M0 _
            refine s_ek_ret (o := some (.int 0)) (fun _ => rfl) ?_
            show s_Ek (s_rows 3 L xs) 1299 s_e234.1 5 [(0, .ref 151), (1, .int a), (2, .int b)] [.int 0] s_M0 _
            refine s_ek_bk 2 (P := 16) (ls' := [(0, .ref 151), (1, .int a), (2, .int b)]) (st' := [.int (-1)]) (M' := s_M0) rfl ?_
            refine s_ek_ret (o := some (.int (-1))) (fun _ => rfl) ?_
            exact rfl
          · replace h5 : ¬ ((-1) < a.toInt) := h5
            replace h5 : a.toInt ≤ (-1) := by omega
            omega
      · replace h3 : ¬ (0 ≤ a.toInt) := h3
        replace h3 : a.toInt < 0 := by omega
        omega
  · replace h1 : ¬ (b.toInt < 0) := h1
    replace h1 : 0 ≤ b.toInt := by omega
    refine s_ek_bk 2 (P := 8) (ls' := [(0, .int b)]) (st' := [.int 444, .int b]) (M' := s_M0) rfl ?_
    refine s_ek_if2 (T := 30) rfl rfl (fun h2 => ?_) (fun h2 => ?_)
    · replace h2 : 444 < b.toInt := h2
      refine s_ek_bk 1 (P := 31) (ls' := [(0, .int b)]) (st' := [.int (-1)]) (M' := s_M0) rfl ?_
      refine s_ek_ret (o := some (.int (-1))) (fun _ => rfl) ?_
      show s_Ek (s_rows 3 L xs) 1299 s_e143.1 4 [(0, .ref 0), (1, .int a), (2, .int b)] [.int (-1)] s_M0 _
      refine s_ek_bk 4 (P := 10) (ls' := [(3, .int (-1)), (0, .ref 0), (1, .int a), (2, .int b)]) (st' := [.int a, .ref 8]) (M' := s_M0) rfl ?_
      refine s_ek_call (ν := s_e40.1) (P := 13) (as := [.ref 8, .int a]) (r := []) (fun _ => rfl) rfl ?_
      show s_Ek (s_rows 3 L xs) 1298 s_e40.1 0 [(0, .ref 8), (1, .int a)] [] s_M0 _
      refine s_ek_bk 1 (P := 1) (ls' := [(0, .ref 8), (1, .int a)]) (st' := [.int a]) (M' := s_M0) rfl ?_
      refine s_ek_if1 (T := 16) rfl rfl (fun h3 => ?_) (fun h3 => ?_)
      · replace h3 : a.toInt < 0 := h3
        refine s_ek_bk 1 (P := 17) (ls' := [(0, .ref 8), (1, .int a)]) (st' := [.int 0]) (M' := s_M0) rfl ?_
        refine s_ek_ret (o := some (.int 0)) (fun _ => rfl) ?_
        show s_Ek (s_rows 3 L xs) 1299 s_e143.1 13 [(3, .int (-1)), (0, .ref 0), (1, .int a), (2, .int b)] [.int 0] s_M0 _
        refine s_ek_bk 2 (P := 21) (ls' := [(3, .int (-1)), (0, .ref 0), (1, .int a), (2, .int b)]) (st' := [.int (-1)]) (M' := s_M0) rfl ?_
        refine s_ek_ret (o := some (.int (-1))) (fun _ => rfl) ?_
        refine ⟨(-1), rfl, ?_⟩
        show s_Ek (s_rows 3 L xs) 1299 s_e234.1 0 [(0, .ref 151), (1, .int a), (2, .int b)] [] s_M0 _
        refine s_ek_bk 2 (P := 2) (ls' := [(0, .ref 151), (1, .int a), (2, .int b)]) (st' := [.int a, .ref 151]) (M' := s_M0) rfl ?_
        refine s_ek_call (ν := s_e201.1) (P := 5) (as := [.ref 151, .int a]) (r := []) (fun _ => rfl) rfl ?_
        show s_Ek (s_rows 3 L xs) 1298 s_e201.1 0 [(0, .ref 151), (1, .int a)] [] s_M0 _
        refine s_ek_bk 6 (P := 8) (ls' := [(0, .ref 151), (1, .int a)]) (st' := [.int (-1), .int 0, .int a]) (M' := s_M0) rfl ?_
        refine s_ek_call (ν := s_e181.1) (P := 11) (as := [.int a, .int 0, .int (-1)]) (r := []) (fun _ => rfl) rfl ?_
        show s_Ek (s_rows 3 L xs) 1297 s_e181.1 0 [(0, .int a), (1, .int 0), (2, .int (-1))] [] s_M0 _
        refine s_ek_bk 2 (P := 2) (ls' := [(0, .int a), (1, .int 0), (2, .int (-1))]) (st' := [.int 0, .int a]) (M' := s_M0) rfl ?_
        refine s_ek_if2 (T := 14) rfl rfl (fun h4 => ?_) (fun h4 => ?_)
        · replace h4 : a.toInt < 0 := h4
          refine s_ek_bk 1 (P := 15) (ls' := [(0, .int a), (1, .int 0), (2, .int (-1))]) (st' := [.int 0]) (M' := s_M0) rfl ?_
          refine s_ek_ret (o := some (.int 0)) (fun _ => rfl) ?_
          show s_Ek (s_rows 3 L xs) 1298 s_e201.1 11 [(0, .ref 151), (1, .int a)] [.int 0] s_M0 _
          refine s_ek_ret (o := some (.int 0)) (fun _ => rfl) ?_
          show s_Ek (s_rows 3 L xs) 1299 s_e234.1 5 [(0, .ref 151), (1, .int a), (2, .int b)] [.int 0] s_M0 _
          refine s_ek_bk 2 (P := 16) (ls' := [(0, .ref 151), (1, .int a), (2, .int b)]) (st' := [.int (-1)]) (M' := s_M0) rfl ?_
          refine s_ek_ret (o := some (.int (-1))) (fun _ => rfl) ?_
          exact rfl
        · replace h4 : ¬ (a.toInt < 0) := h4
          replace h4 : 0 ≤ a.toInt := by omega
          omega
      · replace h3 : ¬ (a.toInt < 0) := h3
        replace h3 : 0 ≤ a.toInt := by omega
        refine s_ek_bk 3 (P := 9) (ls' := [(0, .ref 8), (1, .int a)]) (st' := [.int 0, .int a]) (M' := s_M0) rfl ?_
        refine s_ek_if2 (T := 16) rfl rfl (fun h4 => ?_) (fun h4 => ?_)
        · replace h4 : 0 ≤ a.toInt := h4
          refine s_ek_bk 1 (P := 17) (ls' := [(0, .ref 8), (1, .int a)]) (st' := [.int 0]) (M' := s_M0) rfl ?_
          refine s_ek_ret (o := some (.int 0)) (fun _ => rfl) ?_
          show s_Ek (s_rows 3 L xs) 1299 s_e143.1 13 [(3, .int (-1)), (0, .ref 0), (1, .int a), (2, .int b)] [.int 0] s_M0 _
          refine s_ek_bk 2 (P := 21) (ls' := [(3, .int (-1)), (0, .ref 0), (1, .int a), (2, .int b)]) (st' := [.int (-1)]) (M' := s_M0) rfl ?_
          refine s_ek_ret (o := some (.int (-1))) (fun _ => rfl) ?_
          refine ⟨(-1), rfl, ?_⟩
          show s_Ek (s_rows 3 L xs) 1299 s_e234.1 0 [(0, .ref 151), (1, .int a), (2, .int b)] [] s_M0 _
          refine s_ek_bk 2 (P := 2) (ls' := [(0, .ref 151), (1, .int a), (2, .int b)]) (st' := [.int a, .ref 151]) (M' := s_M0) rfl ?_
          refine s_ek_call (ν := s_e201.1) (P := 5) (as := [.ref 151, .int a]) (r := []) (fun _ => rfl) rfl ?_
          show s_Ek (s_rows 3 L xs) 1298 s_e201.1 0 [(0, .ref 151), (1, .int a)] [] s_M0 _
          refine s_ek_bk 6 (P := 8) (ls' := [(0, .ref 151), (1, .int a)]) (st' := [.int (-1), .int 0, .int a]) (M' := s_M0) rfl ?_
          refine s_ek_call (ν := s_e181.1) (P := 11) (as := [.int a, .int 0, .int (-1)]) (r := []) (fun _ => rfl) rfl ?_
          show s_Ek (s_rows 3 L xs) 1297 s_e181.1 0 [(0, .int a), (1, .int 0), (2, .int (-1))] [] s_M0 _
          refine s_ek_bk 2 (P := 2) (ls' := [(0, .int a), (1, .int 0), (2, .int (-1))]) (st' := [.int 0, .int a]) (M' := s_M0) rfl ?_
          refine s_ek_if2 (T := 14) rfl rfl (fun h5 => ?_) (fun h5 => ?_)
          · replace h5 : a.toInt < 0 := h5
            omega
          · replace h5 : ¬ (a.toInt < 0) := h5
            replace h5 : 0 ≤ a.toInt := by omega
            refine s_ek_bk 2 (P := 7) (ls' := [(0, .int a), (1, .int 0), (2, .int (-1))]) (st' := [.int (-1), .int a]) (M' := s_M0) rfl ?_
            refine s_ek_if2 (T := 14) rfl rfl (fun h6 => ?_) (fun h6 => ?_)
            · replace h6 : (-1) < a.toInt := h6
              refine s_ek_bk 1 (P := 15) (ls' := [(0, .int a), (1, .int 0), (2, .int (-1))]) (st' := [.int 0]) (M' := s_M0) rfl ?_
              refine s_ek_ret (o := some (.int 0)) (fun _ => rfl) ?_
              show s_Ek (s_rows 3 L xs) 1298 s_e201.1 11 [(0, .ref 151), (1, .int a)] [.int 0] s_M0 _
              refine s_ek_ret (o := some (.int 0)) (fun _ => rfl) ?_
              show s_Ek (s_rows 3 L xs) 1299 s_e234.1 5 [(0, .ref 151), (1, .int a), (2, .int b)] [.int 0] s_M0 _
              refine s_ek_bk 2 (P := 16) (ls' := [(0, .ref 151), (1, .int a), (2, .int b)]) (st' := [.int (-1)]) (M' := s_M0) rfl ?_
              refine s_ek_ret (o := some (.int (-1))) (fun _ => rfl) ?_
              exact rfl
            · replace h6 : ¬ ((-1) < a.toInt) := h6
              replace h6 : a.toInt ≤ (-1) := by omega
              omega
        · replace h4 : ¬ (0 ≤ a.toInt) := h4
          replace h4 : a.toInt < 0 := by omega
          omega
    · replace h2 : ¬ (444 < b.toInt) := h2
      replace h2 : b.toInt ≤ 444 := by omega
      refine s_ek_bk 6 (P := 19) (ls' := [(0, .int b)]) (st' := [.int 4, .int ((b / 10) - (b / 10) / 10 * 10)]) (M' := s_M0) rfl ?_
      refine s_ek_if2 (T := 30) rfl rfl (fun h3 => ?_) (fun h3 => ?_)
      · replace h3 : 4 < ((b / 10) - (b / 10) / 10 * 10).toInt := h3
        refine s_ek_bk 1 (P := 31) (ls' := [(0, .int b)]) (st' := [.int (-1)]) (M' := s_M0) rfl ?_
        refine s_ek_ret (o := some (.int (-1))) (fun _ => rfl) ?_
        show s_Ek (s_rows 3 L xs) 1299 s_e143.1 4 [(0, .ref 0), (1, .int a), (2, .int b)] [.int (-1)] s_M0 _
        refine s_ek_bk 4 (P := 10) (ls' := [(3, .int (-1)), (0, .ref 0), (1, .int a), (2, .int b)]) (st' := [.int a, .ref 8]) (M' := s_M0) rfl ?_
        refine s_ek_call (ν := s_e40.1) (P := 13) (as := [.ref 8, .int a]) (r := []) (fun _ => rfl) rfl ?_
        show s_Ek (s_rows 3 L xs) 1298 s_e40.1 0 [(0, .ref 8), (1, .int a)] [] s_M0 _
        refine s_ek_bk 1 (P := 1) (ls' := [(0, .ref 8), (1, .int a)]) (st' := [.int a]) (M' := s_M0) rfl ?_
        refine s_ek_if1 (T := 16) rfl rfl (fun h4 => ?_) (fun h4 => ?_)
        · replace h4 : a.toInt < 0 := h4
          refine s_ek_bk 1 (P := 17) (ls' := [(0, .ref 8), (1, .int a)]) (st' := [.int 0]) (M' := s_M0) rfl ?_
          refine s_ek_ret (o := some (.int 0)) (fun _ => rfl) ?_
          show s_Ek (s_rows 3 L xs) 1299 s_e143.1 13 [(3, .int (-1)), (0, .ref 0), (1, .int a), (2, .int b)] [.int 0] s_M0 _
          refine s_ek_bk 2 (P := 21) (ls' := [(3, .int (-1)), (0, .ref 0), (1, .int a), (2, .int b)]) (st' := [.int (-1)]) (M' := s_M0) rfl ?_
          refine s_ek_ret (o := some (.int (-1))) (fun _ => rfl) ?_
          refine ⟨(-1), rfl, ?_⟩
          show s_Ek (s_rows 3 L xs) 1299 s_e234.1 0 [(0, .ref 151), (1, .int a), (2, .int b)] [] s_M0 _
          refine s_ek_bk 2 (P := 2) (ls' := [(0, .ref 151), (1, .int a), (2, .int b)]) (st' := [.int a, .ref 151]) (M' := s_M0) rfl ?_
          refine s_ek_call (ν := s_e201.1) (P := 5) (as := [.ref 151, .int a]) (r := []) (fun _ => rfl) rfl ?_
          show s_Ek (s_rows 3 L xs) 1298 s_e201.1 0 [(0, .ref 151), (1, .int a)] [] s_M0 _
          refine s_ek_bk 6 (P := 8) (ls' := [(0, .ref 151), (1, .int a)]) (st' := [.int (-1), .int 0, .int a]) (M' := s_M0) rfl ?_
          refine s_ek_call (ν := s_e181.1) (P := 11) (as := [.int a, .int 0, .int (-1)]) (r := []) (fun _ => rfl) rfl ?_
          show s_Ek (s_rows 3 L xs) 1297 s_e181.1 0 [(0, .int a), (1, .int 0), (2, .int (-1))] [] s_M0 _
          refine s_ek_bk 2 (P := 2) (ls' := [(0, .int a), (1, .int 0), (2, .int (-1))]) (st' := [.int 0, .int a]) (M' := s_M0) rfl ?_
          refine s_ek_if2 (T := 14) rfl rfl (fun h5 => ?_) (fun h5 => ?_)
          · replace h5 : a.toInt < 0 := h5
            refine s_ek_bk 1 (P := 15) (ls' := [(0, .int a), (1, .int 0), (2, .int (-1))]) (st' := [.int 0]) (M' := s_M0) rfl ?_
            refine s_ek_ret (o := some (.int 0)) (fun _ => rfl) ?_
            show s_Ek (s_rows 3 L xs) 1298 s_e201.1 11 [(0, .ref 151), (1, .int a)] [.int 0] s_M0 _
            refine s_ek_ret (o := some (.int 0)) (fun _ => rfl) ?_
            show s_Ek (s_rows 3 L xs) 1299 s_e234.1 5 [(0, .ref 151), (1, .int a), (2, .int b)] [.int 0] s_M0 _
            refine s_ek_bk 2 (P := 16) (ls' := [(0, .ref 151), (1, .int a), (2, .int b)]) (st' := [.int (-1)]) (M' := s_M0) rfl ?_
            refine s_ek_ret (o := some (.int (-1))) (fun _ => rfl) ?_
            exact rfl
          · replace h5 : ¬ (a.toInt < 0) := h5
            replace h5 : 0 ≤ a.toInt := by omega
            omega
        · replace h4 : ¬ (a.toInt < 0) := h4
          replace h4 : 0 ≤ a.toInt := by omega
          refine s_ek_bk 3 (P := 9) (ls' := [(0, .ref 8), (1, .int a)]) (st' := [.int 0, .int a]) (M' := s_M0) rfl ?_
          refine s_ek_if2 (T := 16) rfl rfl (fun h5 => ?_) (fun h5 => ?_)
          · replace h5 : 0 ≤ a.toInt := h5
            refine s_ek_bk 1 (P := 17) (ls' := [(0, .ref 8), (1, .int a)]) (st' := [.int 0]) (M' := s_M0) rfl ?_
            refine s_ek_ret (o := some (.int 0)) (fun _ => rfl) ?_
            show s_Ek (s_rows 3 L xs) 1299 s_e143.1 13 [(3, .int (-1)), (0, .ref 0), (1, .int a), (2, .int b)] [.int 0] s_M0 _
            refine s_ek_bk 2 (P := 21) (ls' := [(3, .int (-1)), (0, .ref 0), (1, .int a), (2, .int b)]) (st' := [.int (-1)]) (M' := s_M0) rfl ?_
            refine s_ek_ret (o := some (.int (-1))) (fun _ => rfl) ?_
            refine ⟨(-1), rfl, ?_⟩
            show s_Ek (s_rows 3 L xs) 1299 s_e234.1 0 [(0, .ref 151), (1, .int a), (2, .int b)] [] s_M0 _
            refine s_ek_bk 2 (P := 2) (ls' := [(0, .ref 151), (1, .int a), (2, .int b)]) (st' := [.int a, .ref 151]) (M' := s_M0) rfl ?_
            refine s_ek_call (ν := s_e201.1) (P := 5) (as := [.ref 151, .int a]) (r := []) (fun _ => rfl) rfl ?_
            show s_Ek (s_rows 3 L xs) 1298 s_e201.1 0 [(0, .ref 151), (1, .int a)] [] s_M0 _
            refine s_ek_bk 6 (P := 8) (ls' := [(0, .ref 151), (1, .int a)]) (st' := [.int (-1), .int 0, .int a]) (M' := s_M0) rfl ?_
            refine s_ek_call (ν := s_e181.1) (P := 11) (as := [.int a, .int 0, .int (-1)]) (r := []) (fun _ => rfl) rfl ?_
            show s_Ek (s_rows 3 L xs) 1297 s_e181.1 0 [(0, .int a), (1, .int 0), (2, .int (-1))] [] s_M0 _
            refine s_ek_bk 2 (P := 2) (ls' := [(0, .int a), (1, .int 0), (2, .int (-1))]) (st' := [.int 0, .int a]) (M' := s_M0) rfl ?_
            refine s_ek_if2 (T := 14) rfl rfl (fun h6 => ?_) (fun h6 => ?_)
            · replace h6 : a.toInt < 0 := h6
              omega
            · replace h6 : ¬ (a.toInt < 0) := h6
              replace h6 : 0 ≤ a.toInt := by omega
              refine s_ek_bk 2 (P := 7) (ls' := [(0, .int a), (1, .int 0), (2, .int (-1))]) (st' := [.int (-1), .int a]) (M' := s_M0) rfl ?_
              refine s_ek_if2 (T := 14) rfl rfl (fun h7 => ?_) (fun h7 => ?_)
              · replace h7 : (-1) < a.toInt := h7
                refine s_ek_bk 1 (P := 15) (ls' := [(0, .int a), (1, .int 0), (2, .int (-1))]) (st' := [.int 0]) (M' := s_M0) rfl ?_
                refine s_ek_ret (o := some (.int 0)) (fun _ => rfl) ?_
                show s_Ek (s_rows 3 L xs) 1298 s_e201.1 11 [(0, .ref 151), (1, .int a)] [.int 0] s_M0 _
                refine s_ek_ret (o := some (.int 0)) (fun _ => rfl) ?_
                show s_Ek (s_rows 3 L xs) 1299 s_e234.1 5 [(0, .ref 151), (1, .int a), (2, .int b)] [.int 0] s_M0 _
                refine s_ek_bk 2 (P := 16) (ls' := [(0, .ref 151), (1, .int a), (2, .int b)]) (st' := [.int (-1)]) (M' := s_M0) rfl ?_
                refine s_ek_ret (o := some (.int (-1))) (fun _ => rfl) ?_
                exact rfl
              · replace h7 : ¬ ((-1) < a.toInt) := h7
                replace h7 : a.toInt ≤ (-1) := by omega
                omega
          · replace h5 : ¬ (0 ≤ a.toInt) := h5
            replace h5 : a.toInt < 0 := by omega
            omega
      · replace h3 : ¬ (4 < ((b / 10) - (b / 10) / 10 * 10).toInt) := h3
        replace h3 : ((b / 10) - (b / 10) / 10 * 10).toInt ≤ 4 := by omega
        refine s_ek_bk 4 (P := 27) (ls' := [(0, .int b)]) (st' := [.int 4, .int (b - b / 10 * 10)]) (M' := s_M0) rfl ?_
        refine s_ek_if2 (T := 32) rfl rfl (fun h4 => ?_) (fun h4 => ?_)
        · replace h4 : (b - b / 10 * 10).toInt ≤ 4 := h4
          refine s_ek_bk 17 (P := 54) (ls' := [(0, .int b)]) (st' := [.int ((((b / 100) * 25) + (((b / 10) - (b / 10) / 10 * 10) * 5)) + (b - b / 10 * 10))]) (M' := s_M0) rfl ?_
          refine s_ek_ret (o := some (.int ((((b / 100) * 25) + (((b / 10) - (b / 10) / 10 * 10) * 5)) + (b - b / 10 * 10)))) (fun _ => rfl) ?_
          show s_Ek (s_rows 3 L xs) 1299 s_e143.1 4 [(0, .ref 0), (1, .int a), (2, .int b)] [.int ((((b / 100) * 25) + (((b / 10) - (b / 10) / 10 * 10) * 5)) + (b - b / 10 * 10))] s_M0 _
          refine s_ek_bk 4 (P := 10) (ls' := [(3, .int ((((b / 100) * 25) + (((b / 10) - (b / 10) / 10 * 10) * 5)) + (b - b / 10 * 10))), (0, .ref 0), (1, .int a), (2, .int b)]) (st' := [.int a, .ref 8]) (M' := s_M0) rfl ?_
          refine s_ek_call (ν := s_e40.1) (P := 13) (as := [.ref 8, .int a]) (r := []) (fun _ => rfl) rfl ?_
          show s_Ek (s_rows 3 L xs) 1298 s_e40.1 0 [(0, .ref 8), (1, .int a)] [] s_M0 _
          refine s_ek_bk 1 (P := 1) (ls' := [(0, .ref 8), (1, .int a)]) (st' := [.int a]) (M' := s_M0) rfl ?_
          refine s_ek_if1 (T := 16) rfl rfl (fun h5 => ?_) (fun h5 => ?_)
          · replace h5 : a.toInt < 0 := h5
            refine s_ek_bk 1 (P := 17) (ls' := [(0, .ref 8), (1, .int a)]) (st' := [.int 0]) (M' := s_M0) rfl ?_
            refine s_ek_ret (o := some (.int 0)) (fun _ => rfl) ?_
            show s_Ek (s_rows 3 L xs) 1299 s_e143.1 13 [(3, .int ((((b / 100) * 25) + (((b / 10) - (b / 10) / 10 * 10) * 5)) + (b - b / 10 * 10))), (0, .ref 0), (1, .int a), (2, .int b)] [.int 0] s_M0 _
            refine s_ek_bk 2 (P := 21) (ls' := [(3, .int ((((b / 100) * 25) + (((b / 10) - (b / 10) / 10 * 10) * 5)) + (b - b / 10 * 10))), (0, .ref 0), (1, .int a), (2, .int b)]) (st' := [.int (-1)]) (M' := s_M0) rfl ?_
            refine s_ek_ret (o := some (.int (-1))) (fun _ => rfl) ?_
            refine ⟨(-1), rfl, ?_⟩
            show s_Ek (s_rows 3 L xs) 1299 s_e234.1 0 [(0, .ref 151), (1, .int a), (2, .int b)] [] s_M0 _
            refine s_ek_bk 2 (P := 2) (ls' := [(0, .ref 151), (1, .int a), (2, .int b)]) (st' := [.int a, .ref 151]) (M' := s_M0) rfl ?_
            refine s_ek_call (ν := s_e201.1) (P := 5) (as := [.ref 151, .int a]) (r := []) (fun _ => rfl) rfl ?_
            show s_Ek (s_rows 3 L xs) 1298 s_e201.1 0 [(0, .ref 151), (1, .int a)] [] s_M0 _
            refine s_ek_bk 6 (P := 8) (ls' := [(0, .ref 151), (1, .int a)]) (st' := [.int (-1), .int 0, .int a]) (M' := s_M0) rfl ?_
            refine s_ek_call (ν := s_e181.1) (P := 11) (as := [.int a, .int 0, .int (-1)]) (r := []) (fun _ => rfl) rfl ?_
            show s_Ek (s_rows 3 L xs) 1297 s_e181.1 0 [(0, .int a), (1, .int 0), (2, .int (-1))] [] s_M0 _
            refine s_ek_bk 2 (P := 2) (ls' := [(0, .int a), (1, .int 0), (2, .int (-1))]) (st' := [.int 0, .int a]) (M' := s_M0) rfl ?_
            refine s_ek_if2 (T := 14) rfl rfl (fun h6 => ?_) (fun h6 => ?_)
            · replace h6 : a.toInt < 0 := h6
              refine s_ek_bk 1 (P := 15) (ls' := [(0, .int a), (1, .int 0), (2, .int (-1))]) (st' := [.int 0]) (M' := s_M0) rfl ?_
              refine s_ek_ret (o := some (.int 0)) (fun _ => rfl) ?_
              show s_Ek (s_rows 3 L xs) 1298 s_e201.1 11 [(0, .ref 151), (1, .int a)] [.int 0] s_M0 _
              refine s_ek_ret (o := some (.int 0)) (fun _ => rfl) ?_
              show s_Ek (s_rows 3 L xs) 1299 s_e234.1 5 [(0, .ref 151), (1, .int a), (2, .int b)] [.int 0] s_M0 _
              refine s_ek_bk 2 (P := 16) (ls' := [(0, .ref 151), (1, .int a), (2, .int b)]) (st' := [.int (-1)]) (M' := s_M0) rfl ?_
              refine s_ek_ret (o := some (.int (-1))) (fun _ => rfl) ?_
              exact rfl
            · replace h6 : ¬ (a.toInt < 0) := h6
              replace h6 : 0 ≤ a.toInt := by omega
              omega
          · replace h5 : ¬ (a.toInt < 0) := h5
            replace h5 : 0 ≤ a.toInt := by omega
            refine s_ek_bk 3 (P := 9) (ls' := [(0, .ref 8), (1, .int a)]) (st' := [.int 0, .int a]) (M' := s_M0) rfl ?_
            refine s_ek_if2 (T := 16) rfl rfl (fun h6 => ?_) (fun h6 => ?_)
            · replace h6 : 0 ≤ a.toInt := h6
              refine s_ek_bk 1 (P := 17) (ls' := [(0, .ref 8), (1, .int a)]) (st' := [.int 0]) (M' := s_M0) rfl ?_
              refine s_ek_ret (o := some (.int 0)) (fun _ => rfl) ?_
              show s_Ek (s_rows 3 L xs) 1299 s_e143.1 13 [(3, .int ((((b / 100) * 25) + (((b / 10) - (b / 10) / 10 * 10) * 5)) + (b - b / 10 * 10))), (0, .ref 0), (1, .int a), (2, .int b)] [.int 0] s_M0 _
              refine s_ek_bk 2 (P := 21) (ls' := [(3, .int ((((b / 100) * 25) + (((b / 10) - (b / 10) / 10 * 10) * 5)) + (b - b / 10 * 10))), (0, .ref 0), (1, .int a), (2, .int b)]) (st' := [.int (-1)]) (M' := s_M0) rfl ?_
              refine s_ek_ret (o := some (.int (-1))) (fun _ => rfl) ?_
              refine ⟨(-1), rfl, ?_⟩
              show s_Ek (s_rows 3 L xs) 1299 s_e234.1 0 [(0, .ref 151), (1, .int a), (2, .int b)] [] s_M0 _
              refine s_ek_bk 2 (P := 2) (ls' := [(0, .ref 151), (1, .int a), (2, .int b)]) (st' := [.int a, .ref 151]) (M' := s_M0) rfl ?_
              refine s_ek_call (ν := s_e201.1) (P := 5) (as := [.ref 151, .int a]) (r := []) (fun _ => rfl) rfl ?_
              show s_Ek (s_rows 3 L xs) 1298 s_e201.1 0 [(0, .ref 151), (1, .int a)] [] s_M0 _
              refine s_ek_bk 6 (P := 8) (ls' := [(0, .ref 151), (1, .int a)]) (st' := [.int (-1), .int 0, .int a]) (M' := s_M0) rfl ?_
              refine s_ek_call (ν := s_e181.1) (P := 11) (as := [.int a, .int 0, .int (-1)]) (r := []) (fun _ => rfl) rfl ?_
              show s_Ek (s_rows 3 L xs) 1297 s_e181.1 0 [(0, .int a), (1, .int 0), (2, .int (-1))] [] s_M0 _
              refine s_ek_bk 2 (P := 2) (ls' := [(0, .int a), (1, .int 0), (2, .int (-1))]) (st' := [.int 0, .int a]) (M' := s_M0) rfl ?_
              refine s_ek_if2 (T := 14) rfl rfl (fun h7 => ?_) (fun h7 => ?_)
              · replace h7 : a.toInt < 0 := h7
                omega
              · replace h7 : ¬ (a.toInt < 0) := h7
                replace h7 : 0 ≤ a.toInt := by omega
                refine s_ek_bk 2 (P := 7) (ls' := [(0, .int a), (1, .int 0), (2, .int (-1))]) (st' := [.int (-1), .int a]) (M' := s_M0) rfl ?_
                refine s_ek_if2 (T := 14) rfl rfl (fun h8 => ?_) (fun h8 => ?_)
                · replace h8 : (-1) < a.toInt := h8
                  refine s_ek_bk 1 (P := 15) (ls' := [(0, .int a), (1, .int 0), (2, .int (-1))]) (st' := [.int 0]) (M' := s_M0) rfl ?_
                  refine s_ek_ret (o := some (.int 0)) (fun _ => rfl) ?_
                  show s_Ek (s_rows 3 L xs) 1298 s_e201.1 11 [(0, .ref 151), (1, .int a)] [.int 0] s_M0 _
                  refine s_ek_ret (o := some (.int 0)) (fun _ => rfl) ?_
                  show s_Ek (s_rows 3 L xs) 1299 s_e234.1 5 [(0, .ref 151), (1, .int a), (2, .int b)] [.int 0] s_M0 _
                  refine s_ek_bk 2 (P := 16) (ls' := [(0, .ref 151), (1, .int a), (2, .int b)]) (st' := [.int (-1)]) (M' := s_M0) rfl ?_
                  refine s_ek_ret (o := some (.int (-1))) (fun _ => rfl) ?_
                  exact rfl
                · replace h8 : ¬ ((-1) < a.toInt) := h8
                  replace h8 : a.toInt ≤ (-1) := by omega
                  omega
            · replace h6 : ¬ (0 ≤ a.toInt) := h6
              replace h6 : a.toInt < 0 := by omega
              omega
        · replace h4 : ¬ ((b - b / 10 * 10).toInt ≤ 4) := h4
          replace h4 : 4 < (b - b / 10 * 10).toInt := by omega
          refine s_ek_bk 1 (P := 31) (ls' := [(0, .int b)]) (st' := [.int (-1)]) (M' := s_M0) rfl ?_
          refine s_ek_ret (o := some (.int (-1))) (fun _ => rfl) ?_
          show s_Ek (s_rows 3 L xs) 1299 s_e143.1 4 [(0, .ref 0), (1, .int a), (2, .int b)] [.int (-1)] s_M0 _
          refine s_ek_bk 4 (P := 10) (ls' := [(3, .int (-1)), (0, .ref 0), (1, .int a), (2, .int b)]) (st' := [.int a, .ref 8]) (M' := s_M0) rfl ?_
          refine s_ek_call (ν := s_e40.1) (P := 13) (as := [.ref 8, .int a]) (r := []) (fun _ => rfl) rfl ?_
          show s_Ek (s_rows 3 L xs) 1298 s_e40.1 0 [(0, .ref 8), (1, .int a)] [] s_M0 _
          refine s_ek_bk 1 (P := 1) (ls' := [(0, .ref 8), (1, .int a)]) (st' := [.int a]) (M' := s_M0) rfl ?_
          refine s_ek_if1 (T := 16) rfl rfl (fun h5 => ?_) (fun h5 => ?_)
          · replace h5 : a.toInt < 0 := h5
            refine s_ek_bk 1 (P := 17) (ls' := [(0, .ref 8), (1, .int a)]) (st' := [.int 0]) (M' := s_M0) rfl ?_
            refine s_ek_ret (o := some (.int 0)) (fun _ => rfl) ?_
            show s_Ek (s_rows 3 L xs) 1299 s_e143.1 13 [(3, .int (-1)), (0, .ref 0), (1, .int a), (2, .int b)] [.int 0] s_M0 _
            refine s_ek_bk 2 (P := 21) (ls' := [(3, .int (-1)), (0, .ref 0), (1, .int a), (2, .int b)]) (st' := [.int (-1)]) (M' := s_M0) rfl ?_
            refine s_ek_ret (o := some (.int (-1))) (fun _ => rfl) ?_
            refine ⟨(-1), rfl, ?_⟩
            show s_Ek (s_rows 3 L xs) 1299 s_e234.1 0 [(0, .ref 151), (1, .int a), (2, .int b)] [] s_M0 _
            refine s_ek_bk 2 (P := 2) (ls' := [(0, .ref 151), (1, .int a), (2, .int b)]) (st' := [.int a, .ref 151]) (M' := s_M0) rfl ?_
            refine s_ek_call (ν := s_e201.1) (P := 5) (as := [.ref 151, .int a]) (r := []) (fun _ => rfl) rfl ?_
            show s_Ek (s_rows 3 L xs) 1298 s_e201.1 0 [(0, .ref 151), (1, .int a)] [] s_M0 _
            refine s_ek_bk 6 (P := 8) (ls' := [(0, .ref 151), (1, .int a)]) (st' := [.int (-1), .int 0, .int a]) (M' := s_M0) rfl ?_
            refine s_ek_call (ν := s_e181.1) (P := 11) (as := [.int a, .int 0, .int (-1)]) (r := []) (fun _ => rfl) rfl ?_
            show s_Ek (s_rows 3 L xs) 1297 s_e181.1 0 [(0, .int a), (1, .int 0), (2, .int (-1))] [] s_M0 _
            refine s_ek_bk 2 (P := 2) (ls' := [(0, .int a), (1, .int 0), (2, .int (-1))]) (st' := [.int 0, .int a]) (M' := s_M0) rfl ?_
            refine s_ek_if2 (T := 14) rfl rfl (fun h6 => ?_) (fun h6 => ?_)
            · replace h6 : a.toInt < 0 := h6
              refine s_ek_bk 1 (P := 15) (ls' := [(0, .int a), (1, .int 0), (2, .int (-1))]) (st' := [.int 0]) (M' := s_M0) rfl ?_
              refine s_ek_ret (o := some (.int 0)) (fun _ => rfl) ?_
              show s_Ek (s_rows 3 L xs) 1298 s_e201.1 11 [(0, .ref 151), (1, .int a)] [.int 0] s_M0 _
              refine s_ek_ret (o := some (.int 0)) (fun _ => rfl) ?_
              show s_Ek (s_rows 3 L xs) 1299 s_e234.1 5 [(0, .ref 151), (1, .int a), (2, .int b)] [.int 0] s_M0 _
              refine s_ek_bk 2 (P := 16) (ls' := [(0, .ref 151), (1, .int a), (2, .int b)]) (st' := [.int (-1)]) (M' := s_M0) rfl ?_
              refine s_ek_ret (o := some (.int (-1))) (fun _ => rfl) ?_
              exact rfl
            · replace h6 : ¬ (a.toInt < 0) := h6
              replace h6 : 0 ≤ a.toInt := by omega
              omega
          · replace h5 : ¬ (a.toInt < 0) := h5
            replace h5 : 0 ≤ a.toInt := by omega
            refine s_ek_bk 3 (P := 9) (ls' := [(0, .ref 8), (1, .int a)]) (st' := [.int 0, .int a]) (M' := s_M0) rfl ?_
            refine s_ek_if2 (T := 16) rfl rfl (fun h6 => ?_) (fun h6 => ?_)
            · replace h6 : 0 ≤ a.toInt := h6
              refine s_ek_bk 1 (P := 17) (ls' := [(0, .ref 8), (1, .int a)]) (st' := [.int 0]) (M' := s_M0) rfl ?_
              refine s_ek_ret (o := some (.int 0)) (fun _ => rfl) ?_
              show s_Ek (s_rows 3 L xs) 1299 s_e143.1 13 [(3, .int (-1)), (0, .ref 0), (1, .int a), (2, .int b)] [.int 0] s_M0 _
              refine s_ek_bk 2 (P := 21) (ls' := [(3, .int (-1)), (0, .ref 0), (1, .int a), (2, .int b)]) (st' := [.int (-1)]) (M' := s_M0) rfl ?_
              refine s_ek_ret (o := some (.int (-1))) (fun _ => rfl) ?_
              refine ⟨(-1), rfl, ?_⟩
              show s_Ek (s_rows 3 L xs) 1299 s_e234.1 0 [(0, .ref 151), (1, .int a), (2, .int b)] [] s_M0 _
              refine s_ek_bk 2 (P := 2) (ls' := [(0, .ref 151), (1, .int a), (2, .int b)]) (st' := [.int a, .ref 151]) (M' := s_M0) rfl ?_
              refine s_ek_call (ν := s_e201.1) (P := 5) (as := [.ref 151, .int a]) (r := []) (fun _ => rfl) rfl ?_
              show s_Ek (s_rows 3 L xs) 1298 s_e201.1 0 [(0, .ref 151), (1, .int a)] [] s_M0 _
              refine s_ek_bk 6 (P := 8) (ls' := [(0, .ref 151), (1, .int a)]) (st' := [.int (-1), .int 0, .int a]) (M' := s_M0) rfl ?_
              refine s_ek_call (ν := s_e181.1) (P := 11) (as := [.int a, .int 0, .int (-1)]) (r := []) (fun _ => rfl) rfl ?_
              show s_Ek (s_rows 3 L xs) 1297 s_e181.1 0 [(0, .int a), (1, .int 0), (2, .int (-1))] [] s_M0 _
              refine s_ek_bk 2 (P := 2) (ls' := [(0, .int a), (1, .int 0), (2, .int (-1))]) (st' := [.int 0, .int a]) (M' := s_M0) rfl ?_
              refine s_ek_if2 (T := 14) rfl rfl (fun h7 => ?_) (fun h7 => ?_)
              · replace h7 : a.toInt < 0 := h7
                omega
              · replace h7 : ¬ (a.toInt < 0) := h7
                replace h7 : 0 ≤ a.toInt := by omega
                refine s_ek_bk 2 (P := 7) (ls' := [(0, .int a), (1, .int 0), (2, .int (-1))]) (st' := [.int (-1), .int a]) (M' := s_M0) rfl ?_
                refine s_ek_if2 (T := 14) rfl rfl (fun h8 => ?_) (fun h8 => ?_)
                · replace h8 : (-1) < a.toInt := h8
                  refine s_ek_bk 1 (P := 15) (ls' := [(0, .int a), (1, .int 0), (2, .int (-1))]) (st' := [.int 0]) (M' := s_M0) rfl ?_
                  refine s_ek_ret (o := some (.int 0)) (fun _ => rfl) ?_
                  show s_Ek (s_rows 3 L xs) 1298 s_e201.1 11 [(0, .ref 151), (1, .int a)] [.int 0] s_M0 _
                  refine s_ek_ret (o := some (.int 0)) (fun _ => rfl) ?_
                  show s_Ek (s_rows 3 L xs) 1299 s_e234.1 5 [(0, .ref 151), (1, .int a), (2, .int b)] [.int 0] s_M0 _
                  refine s_ek_bk 2 (P := 16) (ls' := [(0, .ref 151), (1, .int a), (2, .int b)]) (st' := [.int (-1)]) (M' := s_M0) rfl ?_
                  refine s_ek_ret (o := some (.int (-1))) (fun _ => rfl) ?_
                  exact rfl
                · replace h8 : ¬ ((-1) < a.toInt) := h8
                  replace h8 : a.toInt ≤ (-1) := by omega
                  omega
            · replace h6 : ¬ (0 ≤ a.toInt) := h6
              replace h6 : a.toInt < 0 := by omega
              omega
set_option maxHeartbeats 20000000 in
set_option maxRecDepth 100000 in
theorem s_op_judge (L : Nat) (xs : Nat → Int32) (a : Int32) : s_Ek (s_rows 3 L xs) 1299 s_e145.1 0 (lv_args 0 [.ref 0, .int a]) [] s_M0 (fun v M1 => ∃ r : Int32, v = some (.int r) ∧ s_Ek (s_rows 3 L xs) 1299 s_e241.1 0 (lv_args 0 [.ref 151, .int a]) [] M1 (fun w _ => w = some (.int r))) := by
  show s_Ek (s_rows 3 L xs) 1299 s_e145.1 0 [(0, .ref 0), (1, .int a)] [] s_M0 _
  refine s_ek_bk 2 (P := 2) (ls' := [(0, .ref 0), (1, .int a)]) (st' := [.int a, .ref 0]) (M' := s_M0) rfl ?_
  refine s_ek_call (ν := s_e177.1) (P := 5) (as := [.ref 0, .int a]) (r := []) (fun _ => rfl) rfl ?_
  show s_Ek (s_rows 3 L xs) 1298 s_e177.1 0 [(0, .ref 0), (1, .int a)] [] s_M0 _
  refine s_ek_bk 1 (P := 1) (ls' := [(0, .ref 0), (1, .int a)]) (st' := [.int a]) (M' := s_M0) rfl ?_
  refine s_ek_call (ν := s_e175.1) (P := 4) (as := [.int a]) (r := []) (fun _ => rfl) rfl ?_
  show s_Ek (s_rows 3 L xs) 1297 s_e175.1 0 [(0, .int a)] [] s_M0 _
  refine s_ek_bk 1 (P := 1) (ls' := [(0, .int a)]) (st' := [.int a]) (M' := s_M0) rfl ?_
  refine s_ek_if1 (T := 14) rfl rfl (fun h1 => ?_) (fun h1 => ?_)
  · replace h1 : a.toInt < 0 := h1
    refine s_ek_bk 1 (P := 15) (ls' := [(0, .int a)]) (st' := [.int 0]) (M' := s_M0) rfl ?_
    refine s_ek_ret (o := some (.int 0)) (fun _ => rfl) ?_
    show s_Ek (s_rows 3 L xs) 1298 s_e177.1 4 [(0, .ref 0), (1, .int a)] [.int 0] s_M0 _
    refine s_ek_bk 2 (P := 8) (ls' := [(0, .ref 0), (1, .int a)]) (st' := [.int (-1)]) (M' := s_M0) rfl ?_
    refine s_ek_ret (o := some (.int (-1))) (fun _ => rfl) ?_
    show s_Ek (s_rows 3 L xs) 1299 s_e145.1 5 [(0, .ref 0), (1, .int a)] [.int (-1)] s_M0 _
    refine s_ek_bk 4 (P := 11) (ls' := [(2, .int (-1)), (0, .ref 0), (1, .int a)]) (st' := [.int (-1)]) (M' := s_M0) rfl ?_
    refine s_ek_ret (o := some (.int (-1))) (fun _ => rfl) ?_
    refine ⟨(-1), rfl, ?_⟩
    show s_Ek (s_rows 3 L xs) 1299 s_e241.1 0 [(0, .ref 151), (1, .int a)] [] s_M0 _
    refine s_ek_bk 1 (P := 1) (ls' := [(0, .ref 151), (1, .int a)]) (st' := [.int a]) (M' := s_M0) rfl ?_
    refine s_ek_call (ν := s_e281.1) (P := 4) (as := [.int a]) (r := []) (fun _ => rfl) rfl ?_
    show s_Ek (s_rows 3 L xs) 1298 s_e281.1 0 [(0, .int a)] [] s_M0 _
    refine s_ek_bk 3 (P := 3) (ls' := [(0, .int a)]) (st' := [.int 5, .int 0, .int a]) (M' := s_M0) rfl ?_
    refine s_ek_call (ν := s_e181.1) (P := 6) (as := [.int a, .int 0, .int 5]) (r := []) (fun _ => rfl) rfl ?_
    show s_Ek (s_rows 3 L xs) 1297 s_e181.1 0 [(0, .int a), (1, .int 0), (2, .int 5)] [] s_M0 _
    refine s_ek_bk 2 (P := 2) (ls' := [(0, .int a), (1, .int 0), (2, .int 5)]) (st' := [.int 0, .int a]) (M' := s_M0) rfl ?_
    refine s_ek_if2 (T := 14) rfl rfl (fun h2 => ?_) (fun h2 => ?_)
    · replace h2 : a.toInt < 0 := h2
      refine s_ek_bk 1 (P := 15) (ls' := [(0, .int a), (1, .int 0), (2, .int 5)]) (st' := [.int 0]) (M' := s_M0) rfl ?_
      refine s_ek_ret (o := some (.int 0)) (fun _ => rfl) ?_
      show s_Ek (s_rows 3 L xs) 1298 s_e281.1 6 [(0, .int a)] [.int 0] s_M0 _
      refine s_ek_ret (o := some (.int 0)) (fun _ => rfl) ?_
      show s_Ek (s_rows 3 L xs) 1299 s_e241.1 4 [(0, .ref 151), (1, .int a)] [.int 0] s_M0 _
      refine s_ek_bk 2 (P := 8) (ls' := [(0, .ref 151), (1, .int a)]) (st' := [.int (-1)]) (M' := s_M0) rfl ?_
      refine s_ek_ret (o := some (.int (-1))) (fun _ => rfl) ?_
      exact rfl
    · replace h2 : ¬ (a.toInt < 0) := h2
      replace h2 : 0 ≤ a.toInt := by omega
      omega
  · replace h1 : ¬ (a.toInt < 0) := h1
    replace h1 : 0 ≤ a.toInt := by omega
    refine s_ek_bk 2 (P := 7) (ls' := [(0, .int a)]) (st' := [.int 6, .int a]) (M' := s_M0) rfl ?_
    refine s_ek_if2 (T := 14) rfl rfl (fun h2 => ?_) (fun h2 => ?_)
    · replace h2 : 6 ≤ a.toInt := h2
      refine s_ek_bk 1 (P := 15) (ls' := [(0, .int a)]) (st' := [.int 0]) (M' := s_M0) rfl ?_
      refine s_ek_ret (o := some (.int 0)) (fun _ => rfl) ?_
      show s_Ek (s_rows 3 L xs) 1298 s_e177.1 4 [(0, .ref 0), (1, .int a)] [.int 0] s_M0 _
      refine s_ek_bk 2 (P := 8) (ls' := [(0, .ref 0), (1, .int a)]) (st' := [.int (-1)]) (M' := s_M0) rfl ?_
      refine s_ek_ret (o := some (.int (-1))) (fun _ => rfl) ?_
      show s_Ek (s_rows 3 L xs) 1299 s_e145.1 5 [(0, .ref 0), (1, .int a)] [.int (-1)] s_M0 _
      refine s_ek_bk 4 (P := 11) (ls' := [(2, .int (-1)), (0, .ref 0), (1, .int a)]) (st' := [.int (-1)]) (M' := s_M0) rfl ?_
      refine s_ek_ret (o := some (.int (-1))) (fun _ => rfl) ?_
      refine ⟨(-1), rfl, ?_⟩
      show s_Ek (s_rows 3 L xs) 1299 s_e241.1 0 [(0, .ref 151), (1, .int a)] [] s_M0 _
      refine s_ek_bk 1 (P := 1) (ls' := [(0, .ref 151), (1, .int a)]) (st' := [.int a]) (M' := s_M0) rfl ?_
      refine s_ek_call (ν := s_e281.1) (P := 4) (as := [.int a]) (r := []) (fun _ => rfl) rfl ?_
      show s_Ek (s_rows 3 L xs) 1298 s_e281.1 0 [(0, .int a)] [] s_M0 _
      refine s_ek_bk 3 (P := 3) (ls' := [(0, .int a)]) (st' := [.int 5, .int 0, .int a]) (M' := s_M0) rfl ?_
      refine s_ek_call (ν := s_e181.1) (P := 6) (as := [.int a, .int 0, .int 5]) (r := []) (fun _ => rfl) rfl ?_
      show s_Ek (s_rows 3 L xs) 1297 s_e181.1 0 [(0, .int a), (1, .int 0), (2, .int 5)] [] s_M0 _
      refine s_ek_bk 2 (P := 2) (ls' := [(0, .int a), (1, .int 0), (2, .int 5)]) (st' := [.int 0, .int a]) (M' := s_M0) rfl ?_
      refine s_ek_if2 (T := 14) rfl rfl (fun h3 => ?_) (fun h3 => ?_)
      · replace h3 : a.toInt < 0 := h3
        omega
      · replace h3 : ¬ (a.toInt < 0) := h3
        replace h3 : 0 ≤ a.toInt := by omega
        refine s_ek_bk 2 (P := 7) (ls' := [(0, .int a), (1, .int 0), (2, .int 5)]) (st' := [.int 5, .int a]) (M' := s_M0) rfl ?_
        refine s_ek_if2 (T := 14) rfl rfl (fun h4 => ?_) (fun h4 => ?_)
        · replace h4 : 5 < a.toInt := h4
          refine s_ek_bk 1 (P := 15) (ls' := [(0, .int a), (1, .int 0), (2, .int 5)]) (st' := [.int 0]) (M' := s_M0) rfl ?_
          refine s_ek_ret (o := some (.int 0)) (fun _ => rfl) ?_
          show s_Ek (s_rows 3 L xs) 1298 s_e281.1 6 [(0, .int a)] [.int 0] s_M0 _
          refine s_ek_ret (o := some (.int 0)) (fun _ => rfl) ?_
          show s_Ek (s_rows 3 L xs) 1299 s_e241.1 4 [(0, .ref 151), (1, .int a)] [.int 0] s_M0 _
          refine s_ek_bk 2 (P := 8) (ls' := [(0, .ref 151), (1, .int a)]) (st' := [.int (-1)]) (M' := s_M0) rfl ?_
          refine s_ek_ret (o := some (.int (-1))) (fun _ => rfl) ?_
          exact rfl
        · replace h4 : ¬ (5 < a.toInt) := h4
          replace h4 : a.toInt ≤ 5 := by omega
          omega
    · replace h2 : ¬ (6 ≤ a.toInt) := h2
      replace h2 : a.toInt < 6 := by omega
      refine s_ek_bk 2 (P := 15) (ls' := [(0, .int a)]) (st' := [.int 1]) (M' := s_M0) rfl ?_
      refine s_ek_ret (o := some (.int 1)) (fun _ => rfl) ?_
      show s_Ek (s_rows 3 L xs) 1298 s_e177.1 4 [(0, .ref 0), (1, .int a)] [.int 1] s_M0 _
      refine s_ek_bk 3 (P := 11) (ls' := [(0, .ref 0), (1, .int a)]) (st' := [.int a, .ref 0]) (M' := s_M0) rfl ?_
      refine s_ek_call (ν := s_e176.1) (P := 14) (as := [.ref 0, .int a]) (r := []) (fun _ => rfl) rfl ?_
      show s_Ek (s_rows 3 L xs) 1297 s_e176.1 0 [(0, .ref 0), (1, .int a)] [] s_M0 _
      refine s_ek_bk 1 (P := 1) (ls' := [(0, .ref 0), (1, .int a)]) (st' := [.int a]) (M' := s_M0) rfl ?_
      refine s_ek_if1 (T := 22) rfl rfl (fun h3 => ?_) (fun h3 => ?_)
      · replace h3 : a.toInt < 0 := h3
        omega
      · replace h3 : ¬ (a.toInt < 0) := h3
        replace h3 : 0 ≤ a.toInt := by omega
        refine s_ek_bk 4 (P := 10) (ls' := [(0, .ref 0), (1, .int a)]) (st' := [.int 6, .int a]) (M' := s_M0) rfl ?_
        refine s_ek_if2 (T := 22) rfl rfl (fun h4 => ?_) (fun h4 => ?_)
        · replace h4 : 6 ≤ a.toInt := h4
          omega
        · replace h4 : ¬ (6 ≤ a.toInt) := h4
          replace h4 : a.toInt < 6 := by omega
          refine s_ek_bk 3 (P := 18) (ls' := [(0, .ref 0), (1, .int a)]) (st' := [.int a, .ref 135]) (M' := s_M0) rfl ?_
          rcases s_rg_0_5 (a := a) (by omega) (by omega) with rfl | rfl | rfl | rfl | rfl | rfl
          · refine s_ek_bk 6 (P := 33) (ls' := [(0, .ref 0), (1, .int 0)]) (st' := [.ref 139]) (M' := s_M0) rfl ?_
            refine s_ek_ret (o := some (.ref 139)) (fun _ => rfl) ?_
            show s_Ek (s_rows 3 L xs) 1298 s_e177.1 14 [(0, .ref 0), (1, .int 0)] [.ref 139] s_M0 _
            refine s_ek_bk 2 (P := 16) (ls' := [(2, .ref 139), (0, .ref 0), (1, .int 0)]) (st' := [.ref 139]) (M' := s_M0) rfl ?_
            refine s_ek_call (ν := s_e84.1) (P := 19) (as := [.ref 139]) (r := []) (fun _ => rfl) rfl ?_
            show s_Ek (s_rows 3 L xs) 1297 s_e84.1 0 [(0, .ref 139)] [] s_M0 _
            refine s_ek_bk 6 (P := 13) (ls' := [(0, .ref 139)]) (st' := [.int 1]) (M' := s_M0) rfl ?_
            refine s_ek_ret (o := some (.int 1)) (fun _ => rfl) ?_
            show s_Ek (s_rows 3 L xs) 1298 s_e177.1 19 [(2, .ref 139), (0, .ref 0), (1, .int 0)] [.int 1] s_M0 _
            refine s_ek_bk 2 (P := 24) (ls' := [(2, .ref 139), (0, .ref 0), (1, .int 0)]) (st' := [.int (-11)]) (M' := s_M0) rfl ?_
            refine s_ek_ret (o := some (.int (-11))) (fun _ => rfl) ?_
            show s_Ek (s_rows 3 L xs) 1299 s_e145.1 5 [(0, .ref 0), (1, .int 0)] [.int (-11)] s_M0 _
            refine s_ek_bk 4 (P := 11) (ls' := [(2, .int (-11)), (0, .ref 0), (1, .int 0)]) (st' := [.int (-11)]) (M' := s_M0) rfl ?_
            refine s_ek_ret (o := some (.int (-11))) (fun _ => rfl) ?_
            refine ⟨(-11), rfl, ?_⟩
            show s_Ek (s_rows 3 L xs) 1299 s_e241.1 0 [(0, .ref 151), (1, .int 0)] [] s_M0 _
            refine s_ek_bk 1 (P := 1) (ls' := [(0, .ref 151), (1, .int 0)]) (st' := [.int 0]) (M' := s_M0) rfl ?_
            refine s_ek_call (ν := s_e281.1) (P := 4) (as := [.int 0]) (r := []) (fun _ => rfl) rfl ?_
            show s_Ek (s_rows 3 L xs) 1298 s_e281.1 0 [(0, .int 0)] [] s_M0 _
            refine s_ek_bk 3 (P := 3) (ls' := [(0, .int 0)]) (st' := [.int 5, .int 0, .int 0]) (M' := s_M0) rfl ?_
            refine s_ek_call (ν := s_e181.1) (P := 6) (as := [.int 0, .int 0, .int 5]) (r := []) (fun _ => rfl) rfl ?_
            show s_Ek (s_rows 3 L xs) 1297 s_e181.1 0 [(0, .int 0), (1, .int 0), (2, .int 5)] [] s_M0 _
            refine s_ek_bk 8 (P := 15) (ls' := [(0, .int 0), (1, .int 0), (2, .int 5)]) (st' := [.int 1]) (M' := s_M0) rfl ?_
            refine s_ek_ret (o := some (.int 1)) (fun _ => rfl) ?_
            show s_Ek (s_rows 3 L xs) 1298 s_e281.1 6 [(0, .int 0)] [.int 1] s_M0 _
            refine s_ek_ret (o := some (.int 1)) (fun _ => rfl) ?_
            show s_Ek (s_rows 3 L xs) 1299 s_e241.1 4 [(0, .ref 151), (1, .int 0)] [.int 1] s_M0 _
            refine s_ek_bk 3 (P := 11) (ls' := [(0, .ref 151), (1, .int 0)]) (st' := [.int 0, .ref 151]) (M' := s_M0) rfl ?_
            refine s_ek_call (ν := s_e236.1) (P := 14) (as := [.ref 151, .int 0]) (r := []) (fun _ => rfl) rfl ?_
            show s_Ek (s_rows 3 L xs) 1298 s_e236.1 0 [(0, .ref 151), (1, .int 0)] [] s_M0 _
            refine s_ek_bk 8 (P := 32) (ls' := [(0, .ref 151), (1, .int 0)]) (st' := [.int (-11)]) (M' := s_M0) rfl ?_
            refine s_ek_ret (o := some (.int (-11))) (fun _ => rfl) ?_
            show s_Ek (s_rows 3 L xs) 1299 s_e241.1 14 [(0, .ref 151), (1, .int 0)] [.int (-11)] s_M0 _
            refine s_ek_bk 3 (P := 19) (ls' := [(0, .ref 151), (1, .int 0)]) (st' := [.int 0, .ref 151]) (M' := s_M0) rfl ?_
            refine s_ek_call (ν := s_e236.1) (P := 22) (as := [.ref 151, .int 0]) (r := []) (fun _ => rfl) rfl ?_
            show s_Ek (s_rows 3 L xs) 1298 s_e236.1 0 [(0, .ref 151), (1, .int 0)] [] s_M0 _
            refine s_ek_bk 8 (P := 32) (ls' := [(0, .ref 151), (1, .int 0)]) (st' := [.int (-11)]) (M' := s_M0) rfl ?_
            refine s_ek_ret (o := some (.int (-11))) (fun _ => rfl) ?_
            show s_Ek (s_rows 3 L xs) 1299 s_e241.1 22 [(0, .ref 151), (1, .int 0)] [.int (-11)] s_M0 _
            refine s_ek_ret (o := some (.int (-11))) (fun _ => rfl) ?_
            exact rfl
          · refine s_ek_bk 6 (P := 33) (ls' := [(0, .ref 0), (1, .int 1)]) (st' := [.ref 141]) (M' := s_M0) rfl ?_
            refine s_ek_ret (o := some (.ref 141)) (fun _ => rfl) ?_
            show s_Ek (s_rows 3 L xs) 1298 s_e177.1 14 [(0, .ref 0), (1, .int 1)] [.ref 141] s_M0 _
            refine s_ek_bk 2 (P := 16) (ls' := [(2, .ref 141), (0, .ref 0), (1, .int 1)]) (st' := [.ref 141]) (M' := s_M0) rfl ?_
            refine s_ek_call (ν := s_e84.1) (P := 19) (as := [.ref 141]) (r := []) (fun _ => rfl) rfl ?_
            show s_Ek (s_rows 3 L xs) 1297 s_e84.1 0 [(0, .ref 141)] [] s_M0 _
            refine s_ek_bk 6 (P := 13) (ls' := [(0, .ref 141)]) (st' := [.int 1]) (M' := s_M0) rfl ?_
            refine s_ek_ret (o := some (.int 1)) (fun _ => rfl) ?_
            show s_Ek (s_rows 3 L xs) 1298 s_e177.1 19 [(2, .ref 141), (0, .ref 0), (1, .int 1)] [.int 1] s_M0 _
            refine s_ek_bk 2 (P := 24) (ls' := [(2, .ref 141), (0, .ref 0), (1, .int 1)]) (st' := [.int (-11)]) (M' := s_M0) rfl ?_
            refine s_ek_ret (o := some (.int (-11))) (fun _ => rfl) ?_
            show s_Ek (s_rows 3 L xs) 1299 s_e145.1 5 [(0, .ref 0), (1, .int 1)] [.int (-11)] s_M0 _
            refine s_ek_bk 4 (P := 11) (ls' := [(2, .int (-11)), (0, .ref 0), (1, .int 1)]) (st' := [.int (-11)]) (M' := s_M0) rfl ?_
            refine s_ek_ret (o := some (.int (-11))) (fun _ => rfl) ?_
            refine ⟨(-11), rfl, ?_⟩
            show s_Ek (s_rows 3 L xs) 1299 s_e241.1 0 [(0, .ref 151), (1, .int 1)] [] s_M0 _
            refine s_ek_bk 1 (P := 1) (ls' := [(0, .ref 151), (1, .int 1)]) (st' := [.int 1]) (M' := s_M0) rfl ?_
            refine s_ek_call (ν := s_e281.1) (P := 4) (as := [.int 1]) (r := []) (fun _ => rfl) rfl ?_
            show s_Ek (s_rows 3 L xs) 1298 s_e281.1 0 [(0, .int 1)] [] s_M0 _
            refine s_ek_bk 3 (P := 3) (ls' := [(0, .int 1)]) (st' := [.int 5, .int 0, .int 1]) (M' := s_M0) rfl ?_
            refine s_ek_call (ν := s_e181.1) (P := 6) (as := [.int 1, .int 0, .int 5]) (r := []) (fun _ => rfl) rfl ?_
            show s_Ek (s_rows 3 L xs) 1297 s_e181.1 0 [(0, .int 1), (1, .int 0), (2, .int 5)] [] s_M0 _
            refine s_ek_bk 8 (P := 15) (ls' := [(0, .int 1), (1, .int 0), (2, .int 5)]) (st' := [.int 1]) (M' := s_M0) rfl ?_
            refine s_ek_ret (o := some (.int 1)) (fun _ => rfl) ?_
            show s_Ek (s_rows 3 L xs) 1298 s_e281.1 6 [(0, .int 1)] [.int 1] s_M0 _
            refine s_ek_ret (o := some (.int 1)) (fun _ => rfl) ?_
            show s_Ek (s_rows 3 L xs) 1299 s_e241.1 4 [(0, .ref 151), (1, .int 1)] [.int 1] s_M0 _
            refine s_ek_bk 3 (P := 11) (ls' := [(0, .ref 151), (1, .int 1)]) (st' := [.int 1, .ref 151]) (M' := s_M0) rfl ?_
            refine s_ek_call (ν := s_e236.1) (P := 14) (as := [.ref 151, .int 1]) (r := []) (fun _ => rfl) rfl ?_
            show s_Ek (s_rows 3 L xs) 1298 s_e236.1 0 [(0, .ref 151), (1, .int 1)] [] s_M0 _
            refine s_ek_bk 8 (P := 32) (ls' := [(0, .ref 151), (1, .int 1)]) (st' := [.int (-11)]) (M' := s_M0) rfl ?_
            refine s_ek_ret (o := some (.int (-11))) (fun _ => rfl) ?_
            show s_Ek (s_rows 3 L xs) 1299 s_e241.1 14 [(0, .ref 151), (1, .int 1)] [.int (-11)] s_M0 _
            refine s_ek_bk 3 (P := 19) (ls' := [(0, .ref 151), (1, .int 1)]) (st' := [.int 1, .ref 151]) (M' := s_M0) rfl ?_
            refine s_ek_call (ν := s_e236.1) (P := 22) (as := [.ref 151, .int 1]) (r := []) (fun _ => rfl) rfl ?_
            show s_Ek (s_rows 3 L xs) 1298 s_e236.1 0 [(0, .ref 151), (1, .int 1)] [] s_M0 _
            refine s_ek_bk 8 (P := 32) (ls' := [(0, .ref 151), (1, .int 1)]) (st' := [.int (-11)]) (M' := s_M0) rfl ?_
            refine s_ek_ret (o := some (.int (-11))) (fun _ => rfl) ?_
            show s_Ek (s_rows 3 L xs) 1299 s_e241.1 22 [(0, .ref 151), (1, .int 1)] [.int (-11)] s_M0 _
            refine s_ek_ret (o := some (.int (-11))) (fun _ => rfl) ?_
            exact rfl
          · refine s_ek_bk 6 (P := 33) (ls' := [(0, .ref 0), (1, .int 2)]) (st' := [.ref 143]) (M' := s_M0) rfl ?_
            refine s_ek_ret (o := some (.ref 143)) (fun _ => rfl) ?_
            show s_Ek (s_rows 3 L xs) 1298 s_e177.1 14 [(0, .ref 0), (1, .int 2)] [.ref 143] s_M0 _
            refine s_ek_bk 2 (P := 16) (ls' := [(2, .ref 143), (0, .ref 0), (1, .int 2)]) (st' := [.ref 143]) (M' := s_M0) rfl ?_
            refine s_ek_call (ν := s_e84.1) (P := 19) (as := [.ref 143]) (r := []) (fun _ => rfl) rfl ?_
            show s_Ek (s_rows 3 L xs) 1297 s_e84.1 0 [(0, .ref 143)] [] s_M0 _
            refine s_ek_bk 6 (P := 13) (ls' := [(0, .ref 143)]) (st' := [.int 1]) (M' := s_M0) rfl ?_
            refine s_ek_ret (o := some (.int 1)) (fun _ => rfl) ?_
            show s_Ek (s_rows 3 L xs) 1298 s_e177.1 19 [(2, .ref 143), (0, .ref 0), (1, .int 2)] [.int 1] s_M0 _
            refine s_ek_bk 2 (P := 24) (ls' := [(2, .ref 143), (0, .ref 0), (1, .int 2)]) (st' := [.int (-11)]) (M' := s_M0) rfl ?_
            refine s_ek_ret (o := some (.int (-11))) (fun _ => rfl) ?_
            show s_Ek (s_rows 3 L xs) 1299 s_e145.1 5 [(0, .ref 0), (1, .int 2)] [.int (-11)] s_M0 _
            refine s_ek_bk 4 (P := 11) (ls' := [(2, .int (-11)), (0, .ref 0), (1, .int 2)]) (st' := [.int (-11)]) (M' := s_M0) rfl ?_
            refine s_ek_ret (o := some (.int (-11))) (fun _ => rfl) ?_
            refine ⟨(-11), rfl, ?_⟩
            show s_Ek (s_rows 3 L xs) 1299 s_e241.1 0 [(0, .ref 151), (1, .int 2)] [] s_M0 _
            refine s_ek_bk 1 (P := 1) (ls' := [(0, .ref 151), (1, .int 2)]) (st' := [.int 2]) (M' := s_M0) rfl ?_
            refine s_ek_call (ν := s_e281.1) (P := 4) (as := [.int 2]) (r := []) (fun _ => rfl) rfl ?_
            show s_Ek (s_rows 3 L xs) 1298 s_e281.1 0 [(0, .int 2)] [] s_M0 _
            refine s_ek_bk 3 (P := 3) (ls' := [(0, .int 2)]) (st' := [.int 5, .int 0, .int 2]) (M' := s_M0) rfl ?_
            refine s_ek_call (ν := s_e181.1) (P := 6) (as := [.int 2, .int 0, .int 5]) (r := []) (fun _ => rfl) rfl ?_
            show s_Ek (s_rows 3 L xs) 1297 s_e181.1 0 [(0, .int 2), (1, .int 0), (2, .int 5)] [] s_M0 _
            refine s_ek_bk 8 (P := 15) (ls' := [(0, .int 2), (1, .int 0), (2, .int 5)]) (st' := [.int 1]) (M' := s_M0) rfl ?_
            refine s_ek_ret (o := some (.int 1)) (fun _ => rfl) ?_
            show s_Ek (s_rows 3 L xs) 1298 s_e281.1 6 [(0, .int 2)] [.int 1] s_M0 _
            refine s_ek_ret (o := some (.int 1)) (fun _ => rfl) ?_
            show s_Ek (s_rows 3 L xs) 1299 s_e241.1 4 [(0, .ref 151), (1, .int 2)] [.int 1] s_M0 _
            refine s_ek_bk 3 (P := 11) (ls' := [(0, .ref 151), (1, .int 2)]) (st' := [.int 2, .ref 151]) (M' := s_M0) rfl ?_
            refine s_ek_call (ν := s_e236.1) (P := 14) (as := [.ref 151, .int 2]) (r := []) (fun _ => rfl) rfl ?_
            show s_Ek (s_rows 3 L xs) 1298 s_e236.1 0 [(0, .ref 151), (1, .int 2)] [] s_M0 _
            refine s_ek_bk 8 (P := 32) (ls' := [(0, .ref 151), (1, .int 2)]) (st' := [.int (-11)]) (M' := s_M0) rfl ?_
            refine s_ek_ret (o := some (.int (-11))) (fun _ => rfl) ?_
            show s_Ek (s_rows 3 L xs) 1299 s_e241.1 14 [(0, .ref 151), (1, .int 2)] [.int (-11)] s_M0 _
            refine s_ek_bk 3 (P := 19) (ls' := [(0, .ref 151), (1, .int 2)]) (st' := [.int 2, .ref 151]) (M' := s_M0) rfl ?_
            refine s_ek_call (ν := s_e236.1) (P := 22) (as := [.ref 151, .int 2]) (r := []) (fun _ => rfl) rfl ?_
            show s_Ek (s_rows 3 L xs) 1298 s_e236.1 0 [(0, .ref 151), (1, .int 2)] [] s_M0 _
            refine s_ek_bk 8 (P := 32) (ls' := [(0, .ref 151), (1, .int 2)]) (st' := [.int (-11)]) (M' := s_M0) rfl ?_
            refine s_ek_ret (o := some (.int (-11))) (fun _ => rfl) ?_
            show s_Ek (s_rows 3 L xs) 1299 s_e241.1 22 [(0, .ref 151), (1, .int 2)] [.int (-11)] s_M0 _
            refine s_ek_ret (o := some (.int (-11))) (fun _ => rfl) ?_
            exact rfl
          · refine s_ek_bk 6 (P := 33) (ls' := [(0, .ref 0), (1, .int 3)]) (st' := [.ref 145]) (M' := s_M0) rfl ?_
            refine s_ek_ret (o := some (.ref 145)) (fun _ => rfl) ?_
            show s_Ek (s_rows 3 L xs) 1298 s_e177.1 14 [(0, .ref 0), (1, .int 3)] [.ref 145] s_M0 _
            refine s_ek_bk 2 (P := 16) (ls' := [(2, .ref 145), (0, .ref 0), (1, .int 3)]) (st' := [.ref 145]) (M' := s_M0) rfl ?_
            refine s_ek_call (ν := s_e84.1) (P := 19) (as := [.ref 145]) (r := []) (fun _ => rfl) rfl ?_
            show s_Ek (s_rows 3 L xs) 1297 s_e84.1 0 [(0, .ref 145)] [] s_M0 _
            refine s_ek_bk 6 (P := 13) (ls' := [(0, .ref 145)]) (st' := [.int 1]) (M' := s_M0) rfl ?_
            refine s_ek_ret (o := some (.int 1)) (fun _ => rfl) ?_
            show s_Ek (s_rows 3 L xs) 1298 s_e177.1 19 [(2, .ref 145), (0, .ref 0), (1, .int 3)] [.int 1] s_M0 _
            refine s_ek_bk 2 (P := 24) (ls' := [(2, .ref 145), (0, .ref 0), (1, .int 3)]) (st' := [.int (-11)]) (M' := s_M0) rfl ?_
            refine s_ek_ret (o := some (.int (-11))) (fun _ => rfl) ?_
            show s_Ek (s_rows 3 L xs) 1299 s_e145.1 5 [(0, .ref 0), (1, .int 3)] [.int (-11)] s_M0 _
            refine s_ek_bk 4 (P := 11) (ls' := [(2, .int (-11)), (0, .ref 0), (1, .int 3)]) (st' := [.int (-11)]) (M' := s_M0) rfl ?_
            refine s_ek_ret (o := some (.int (-11))) (fun _ => rfl) ?_
            refine ⟨(-11), rfl, ?_⟩
            show s_Ek (s_rows 3 L xs) 1299 s_e241.1 0 [(0, .ref 151), (1, .int 3)] [] s_M0 _
            refine s_ek_bk 1 (P := 1) (ls' := [(0, .ref 151), (1, .int 3)]) (st' := [.int 3]) (M' := s_M0) rfl ?_
            refine s_ek_call (ν := s_e281.1) (P := 4) (as := [.int 3]) (r := []) (fun _ => rfl) rfl ?_
            show s_Ek (s_rows 3 L xs) 1298 s_e281.1 0 [(0, .int 3)] [] s_M0 _
            refine s_ek_bk 3 (P := 3) (ls' := [(0, .int 3)]) (st' := [.int 5, .int 0, .int 3]) (M' := s_M0) rfl ?_
            refine s_ek_call (ν := s_e181.1) (P := 6) (as := [.int 3, .int 0, .int 5]) (r := []) (fun _ => rfl) rfl ?_
            show s_Ek (s_rows 3 L xs) 1297 s_e181.1 0 [(0, .int 3), (1, .int 0), (2, .int 5)] [] s_M0 _
            refine s_ek_bk 8 (P := 15) (ls' := [(0, .int 3), (1, .int 0), (2, .int 5)]) (st' := [.int 1]) (M' := s_M0) rfl ?_
            refine s_ek_ret (o := some (.int 1)) (fun _ => rfl) ?_
            show s_Ek (s_rows 3 L xs) 1298 s_e281.1 6 [(0, .int 3)] [.int 1] s_M0 _
            refine s_ek_ret (o := some (.int 1)) (fun _ => rfl) ?_
            show s_Ek (s_rows 3 L xs) 1299 s_e241.1 4 [(0, .ref 151), (1, .int 3)] [.int 1] s_M0 _
            refine s_ek_bk 3 (P := 11) (ls' := [(0, .ref 151), (1, .int 3)]) (st' := [.int 3, .ref 151]) (M' := s_M0) rfl ?_
            refine s_ek_call (ν := s_e236.1) (P := 14) (as := [.ref 151, .int 3]) (r := []) (fun _ => rfl) rfl ?_
            show s_Ek (s_rows 3 L xs) 1298 s_e236.1 0 [(0, .ref 151), (1, .int 3)] [] s_M0 _
            refine s_ek_bk 8 (P := 32) (ls' := [(0, .ref 151), (1, .int 3)]) (st' := [.int (-11)]) (M' := s_M0) rfl ?_
            refine s_ek_ret (o := some (.int (-11))) (fun _ => rfl) ?_
            show s_Ek (s_rows 3 L xs) 1299 s_e241.1 14 [(0, .ref 151), (1, .int 3)] [.int (-11)] s_M0 _
            refine s_ek_bk 3 (P := 19) (ls' := [(0, .ref 151), (1, .int 3)]) (st' := [.int 3, .ref 151]) (M' := s_M0) rfl ?_
            refine s_ek_call (ν := s_e236.1) (P := 22) (as := [.ref 151, .int 3]) (r := []) (fun _ => rfl) rfl ?_
            show s_Ek (s_rows 3 L xs) 1298 s_e236.1 0 [(0, .ref 151), (1, .int 3)] [] s_M0 _
            refine s_ek_bk 8 (P := 32) (ls' := [(0, .ref 151), (1, .int 3)]) (st' := [.int (-11)]) (M' := s_M0) rfl ?_
            refine s_ek_ret (o := some (.int (-11))) (fun _ => rfl) ?_
            show s_Ek (s_rows 3 L xs) 1299 s_e241.1 22 [(0, .ref 151), (1, .int 3)] [.int (-11)] s_M0 _
            refine s_ek_ret (o := some (.int (-11))) (fun _ => rfl) ?_
            exact rfl
          · refine s_ek_bk 6 (P := 33) (ls' := [(0, .ref 0), (1, .int 4)]) (st' := [.ref 147]) (M' := s_M0) rfl ?_
            refine s_ek_ret (o := some (.ref 147)) (fun _ => rfl) ?_
            show s_Ek (s_rows 3 L xs) 1298 s_e177.1 14 [(0, .ref 0), (1, .int 4)] [.ref 147] s_M0 _
            refine s_ek_bk 2 (P := 16) (ls' := [(2, .ref 147), (0, .ref 0), (1, .int 4)]) (st' := [.ref 147]) (M' := s_M0) rfl ?_
            refine s_ek_call (ν := s_e84.1) (P := 19) (as := [.ref 147]) (r := []) (fun _ => rfl) rfl ?_
            show s_Ek (s_rows 3 L xs) 1297 s_e84.1 0 [(0, .ref 147)] [] s_M0 _
            refine s_ek_bk 6 (P := 13) (ls' := [(0, .ref 147)]) (st' := [.int 1]) (M' := s_M0) rfl ?_
            refine s_ek_ret (o := some (.int 1)) (fun _ => rfl) ?_
            show s_Ek (s_rows 3 L xs) 1298 s_e177.1 19 [(2, .ref 147), (0, .ref 0), (1, .int 4)] [.int 1] s_M0 _
            refine s_ek_bk 2 (P := 24) (ls' := [(2, .ref 147), (0, .ref 0), (1, .int 4)]) (st' := [.int (-11)]) (M' := s_M0) rfl ?_
            refine s_ek_ret (o := some (.int (-11))) (fun _ => rfl) ?_
            show s_Ek (s_rows 3 L xs) 1299 s_e145.1 5 [(0, .ref 0), (1, .int 4)] [.int (-11)] s_M0 _
            refine s_ek_bk 4 (P := 11) (ls' := [(2, .int (-11)), (0, .ref 0), (1, .int 4)]) (st' := [.int (-11)]) (M' := s_M0) rfl ?_
            refine s_ek_ret (o := some (.int (-11))) (fun _ => rfl) ?_
            refine ⟨(-11), rfl, ?_⟩
            show s_Ek (s_rows 3 L xs) 1299 s_e241.1 0 [(0, .ref 151), (1, .int 4)] [] s_M0 _
            refine s_ek_bk 1 (P := 1) (ls' := [(0, .ref 151), (1, .int 4)]) (st' := [.int 4]) (M' := s_M0) rfl ?_
            refine s_ek_call (ν := s_e281.1) (P := 4) (as := [.int 4]) (r := []) (fun _ => rfl) rfl ?_
            show s_Ek (s_rows 3 L xs) 1298 s_e281.1 0 [(0, .int 4)] [] s_M0 _
            refine s_ek_bk 3 (P := 3) (ls' := [(0, .int 4)]) (st' := [.int 5, .int 0, .int 4]) (M' := s_M0) rfl ?_
            refine s_ek_call (ν := s_e181.1) (P := 6) (as := [.int 4, .int 0, .int 5]) (r := []) (fun _ => rfl) rfl ?_
            show s_Ek (s_rows 3 L xs) 1297 s_e181.1 0 [(0, .int 4), (1, .int 0), (2, .int 5)] [] s_M0 _
            refine s_ek_bk 8 (P := 15) (ls' := [(0, .int 4), (1, .int 0), (2, .int 5)]) (st' := [.int 1]) (M' := s_M0) rfl ?_
            refine s_ek_ret (o := some (.int 1)) (fun _ => rfl) ?_
            show s_Ek (s_rows 3 L xs) 1298 s_e281.1 6 [(0, .int 4)] [.int 1] s_M0 _
            refine s_ek_ret (o := some (.int 1)) (fun _ => rfl) ?_
            show s_Ek (s_rows 3 L xs) 1299 s_e241.1 4 [(0, .ref 151), (1, .int 4)] [.int 1] s_M0 _
            refine s_ek_bk 3 (P := 11) (ls' := [(0, .ref 151), (1, .int 4)]) (st' := [.int 4, .ref 151]) (M' := s_M0) rfl ?_
            refine s_ek_call (ν := s_e236.1) (P := 14) (as := [.ref 151, .int 4]) (r := []) (fun _ => rfl) rfl ?_
            show s_Ek (s_rows 3 L xs) 1298 s_e236.1 0 [(0, .ref 151), (1, .int 4)] [] s_M0 _
            refine s_ek_bk 8 (P := 32) (ls' := [(0, .ref 151), (1, .int 4)]) (st' := [.int (-11)]) (M' := s_M0) rfl ?_
            refine s_ek_ret (o := some (.int (-11))) (fun _ => rfl) ?_
            show s_Ek (s_rows 3 L xs) 1299 s_e241.1 14 [(0, .ref 151), (1, .int 4)] [.int (-11)] s_M0 _
            refine s_ek_bk 3 (P := 19) (ls' := [(0, .ref 151), (1, .int 4)]) (st' := [.int 4, .ref 151]) (M' := s_M0) rfl ?_
            refine s_ek_call (ν := s_e236.1) (P := 22) (as := [.ref 151, .int 4]) (r := []) (fun _ => rfl) rfl ?_
            show s_Ek (s_rows 3 L xs) 1298 s_e236.1 0 [(0, .ref 151), (1, .int 4)] [] s_M0 _
            refine s_ek_bk 8 (P := 32) (ls' := [(0, .ref 151), (1, .int 4)]) (st' := [.int (-11)]) (M' := s_M0) rfl ?_
            refine s_ek_ret (o := some (.int (-11))) (fun _ => rfl) ?_
            show s_Ek (s_rows 3 L xs) 1299 s_e241.1 22 [(0, .ref 151), (1, .int 4)] [.int (-11)] s_M0 _
            refine s_ek_ret (o := some (.int (-11))) (fun _ => rfl) ?_
            exact rfl
          · refine s_ek_bk 6 (P := 33) (ls' := [(0, .ref 0), (1, .int 5)]) (st' := [.ref 149]) (M' := s_M0) rfl ?_
            refine s_ek_ret (o := some (.ref 149)) (fun _ => rfl) ?_
            show s_Ek (s_rows 3 L xs) 1298 s_e177.1 14 [(0, .ref 0), (1, .int 5)] [.ref 149] s_M0 _
            refine s_ek_bk 2 (P := 16) (ls' := [(2, .ref 149), (0, .ref 0), (1, .int 5)]) (st' := [.ref 149]) (M' := s_M0) rfl ?_
            refine s_ek_call (ν := s_e84.1) (P := 19) (as := [.ref 149]) (r := []) (fun _ => rfl) rfl ?_
            show s_Ek (s_rows 3 L xs) 1297 s_e84.1 0 [(0, .ref 149)] [] s_M0 _
            refine s_ek_bk 6 (P := 13) (ls' := [(0, .ref 149)]) (st' := [.int 1]) (M' := s_M0) rfl ?_
            refine s_ek_ret (o := some (.int 1)) (fun _ => rfl) ?_
            show s_Ek (s_rows 3 L xs) 1298 s_e177.1 19 [(2, .ref 149), (0, .ref 0), (1, .int 5)] [.int 1] s_M0 _
            refine s_ek_bk 2 (P := 24) (ls' := [(2, .ref 149), (0, .ref 0), (1, .int 5)]) (st' := [.int (-11)]) (M' := s_M0) rfl ?_
            refine s_ek_ret (o := some (.int (-11))) (fun _ => rfl) ?_
            show s_Ek (s_rows 3 L xs) 1299 s_e145.1 5 [(0, .ref 0), (1, .int 5)] [.int (-11)] s_M0 _
            refine s_ek_bk 4 (P := 11) (ls' := [(2, .int (-11)), (0, .ref 0), (1, .int 5)]) (st' := [.int (-11)]) (M' := s_M0) rfl ?_
            refine s_ek_ret (o := some (.int (-11))) (fun _ => rfl) ?_
            refine ⟨(-11), rfl, ?_⟩
            show s_Ek (s_rows 3 L xs) 1299 s_e241.1 0 [(0, .ref 151), (1, .int 5)] [] s_M0 _
            refine s_ek_bk 1 (P := 1) (ls' := [(0, .ref 151), (1, .int 5)]) (st' := [.int 5]) (M' := s_M0) rfl ?_
            refine s_ek_call (ν := s_e281.1) (P := 4) (as := [.int 5]) (r := []) (fun _ => rfl) rfl ?_
            show s_Ek (s_rows 3 L xs) 1298 s_e281.1 0 [(0, .int 5)] [] s_M0 _
            refine s_ek_bk 3 (P := 3) (ls' := [(0, .int 5)]) (st' := [.int 5, .int 0, .int 5]) (M' := s_M0) rfl ?_
            refine s_ek_call (ν := s_e181.1) (P := 6) (as := [.int 5, .int 0, .int 5]) (r := []) (fun _ => rfl) rfl ?_
            show s_Ek (s_rows 3 L xs) 1297 s_e181.1 0 [(0, .int 5), (1, .int 0), (2, .int 5)] [] s_M0 _
            refine s_ek_bk 8 (P := 15) (ls' := [(0, .int 5), (1, .int 0), (2, .int 5)]) (st' := [.int 1]) (M' := s_M0) rfl ?_
            refine s_ek_ret (o := some (.int 1)) (fun _ => rfl) ?_
            show s_Ek (s_rows 3 L xs) 1298 s_e281.1 6 [(0, .int 5)] [.int 1] s_M0 _
            refine s_ek_ret (o := some (.int 1)) (fun _ => rfl) ?_
            show s_Ek (s_rows 3 L xs) 1299 s_e241.1 4 [(0, .ref 151), (1, .int 5)] [.int 1] s_M0 _
            refine s_ek_bk 3 (P := 11) (ls' := [(0, .ref 151), (1, .int 5)]) (st' := [.int 5, .ref 151]) (M' := s_M0) rfl ?_
            refine s_ek_call (ν := s_e236.1) (P := 14) (as := [.ref 151, .int 5]) (r := []) (fun _ => rfl) rfl ?_
            show s_Ek (s_rows 3 L xs) 1298 s_e236.1 0 [(0, .ref 151), (1, .int 5)] [] s_M0 _
            refine s_ek_bk 8 (P := 32) (ls' := [(0, .ref 151), (1, .int 5)]) (st' := [.int (-11)]) (M' := s_M0) rfl ?_
            refine s_ek_ret (o := some (.int (-11))) (fun _ => rfl) ?_
            show s_Ek (s_rows 3 L xs) 1299 s_e241.1 14 [(0, .ref 151), (1, .int 5)] [.int (-11)] s_M0 _
            refine s_ek_bk 3 (P := 19) (ls' := [(0, .ref 151), (1, .int 5)]) (st' := [.int 5, .ref 151]) (M' := s_M0) rfl ?_
            refine s_ek_call (ν := s_e236.1) (P := 22) (as := [.ref 151, .int 5]) (r := []) (fun _ => rfl) rfl ?_
            show s_Ek (s_rows 3 L xs) 1298 s_e236.1 0 [(0, .ref 151), (1, .int 5)] [] s_M0 _
            refine s_ek_bk 8 (P := 32) (ls' := [(0, .ref 151), (1, .int 5)]) (st' := [.int (-11)]) (M' := s_M0) rfl ?_
            refine s_ek_ret (o := some (.int (-11))) (fun _ => rfl) ?_
            show s_Ek (s_rows 3 L xs) 1299 s_e241.1 22 [(0, .ref 151), (1, .int 5)] [.int (-11)] s_M0 _
            refine s_ek_ret (o := some (.int (-11))) (fun _ => rfl) ?_
            exact rfl
set_option maxHeartbeats 20000000 in
set_option maxRecDepth 100000 in
theorem s_op_falseOnes (L : Nat) (xs : Nat → Int32) (a : Int32) : s_Ek (s_rows 3 L xs) 1299 s_e151.1 0 (lv_args 0 [.ref 0, .int a]) [] s_M0 (fun v M1 => ∃ r : Int32, v = some (.int r) ∧ s_Ek (s_rows 3 L xs) 1299 s_e255.1 0 (lv_args 0 [.ref 151, .int a]) [] M1 (fun w _ => w = some (.int r))) := by
  show s_Ek (s_rows 3 L xs) 1299 s_e151.1 0 [(0, .ref 0), (1, .int a)] [] s_M0 _
  refine s_ek_bk 2 (P := 2) (ls' := [(0, .ref 0), (1, .int a)]) (st' := [.int a, .ref 0]) (M' := s_M0) rfl ?_
  refine s_ek_call (ν := s_e177.1) (P := 5) (as := [.ref 0, .int a]) (r := []) (fun _ => rfl) rfl ?_
  show s_Ek (s_rows 3 L xs) 1298 s_e177.1 0 [(0, .ref 0), (1, .int a)] [] s_M0 _
  refine s_ek_bk 1 (P := 1) (ls' := [(0, .ref 0), (1, .int a)]) (st' := [.int a]) (M' := s_M0) rfl ?_
  refine s_ek_call (ν := s_e175.1) (P := 4) (as := [.int a]) (r := []) (fun _ => rfl) rfl ?_
  show s_Ek (s_rows 3 L xs) 1297 s_e175.1 0 [(0, .int a)] [] s_M0 _
  refine s_ek_bk 1 (P := 1) (ls' := [(0, .int a)]) (st' := [.int a]) (M' := s_M0) rfl ?_
  refine s_ek_if1 (T := 14) rfl rfl (fun h1 => ?_) (fun h1 => ?_)
  · replace h1 : a.toInt < 0 := h1
    refine s_ek_bk 1 (P := 15) (ls' := [(0, .int a)]) (st' := [.int 0]) (M' := s_M0) rfl ?_
    refine s_ek_ret (o := some (.int 0)) (fun _ => rfl) ?_
    show s_Ek (s_rows 3 L xs) 1298 s_e177.1 4 [(0, .ref 0), (1, .int a)] [.int 0] s_M0 _
    refine s_ek_bk 2 (P := 8) (ls' := [(0, .ref 0), (1, .int a)]) (st' := [.int (-1)]) (M' := s_M0) rfl ?_
    refine s_ek_ret (o := some (.int (-1))) (fun _ => rfl) ?_
    show s_Ek (s_rows 3 L xs) 1299 s_e151.1 5 [(0, .ref 0), (1, .int a)] [.int (-1)] s_M0 _
    refine s_ek_bk 4 (P := 11) (ls' := [(2, .int (-1)), (0, .ref 0), (1, .int a)]) (st' := [.int (-1)]) (M' := s_M0) rfl ?_
    refine s_ek_ret (o := some (.int (-1))) (fun _ => rfl) ?_
    refine ⟨(-1), rfl, ?_⟩
    show s_Ek (s_rows 3 L xs) 1299 s_e255.1 0 [(0, .ref 151), (1, .int a)] [] s_M0 _
    refine s_ek_bk 1 (P := 1) (ls' := [(0, .ref 151), (1, .int a)]) (st' := [.int a]) (M' := s_M0) rfl ?_
    refine s_ek_call (ν := s_e281.1) (P := 4) (as := [.int a]) (r := []) (fun _ => rfl) rfl ?_
    show s_Ek (s_rows 3 L xs) 1298 s_e281.1 0 [(0, .int a)] [] s_M0 _
    refine s_ek_bk 3 (P := 3) (ls' := [(0, .int a)]) (st' := [.int 5, .int 0, .int a]) (M' := s_M0) rfl ?_
    refine s_ek_call (ν := s_e181.1) (P := 6) (as := [.int a, .int 0, .int 5]) (r := []) (fun _ => rfl) rfl ?_
    show s_Ek (s_rows 3 L xs) 1297 s_e181.1 0 [(0, .int a), (1, .int 0), (2, .int 5)] [] s_M0 _
    refine s_ek_bk 2 (P := 2) (ls' := [(0, .int a), (1, .int 0), (2, .int 5)]) (st' := [.int 0, .int a]) (M' := s_M0) rfl ?_
    refine s_ek_if2 (T := 14) rfl rfl (fun h2 => ?_) (fun h2 => ?_)
    · replace h2 : a.toInt < 0 := h2
      refine s_ek_bk 1 (P := 15) (ls' := [(0, .int a), (1, .int 0), (2, .int 5)]) (st' := [.int 0]) (M' := s_M0) rfl ?_
      refine s_ek_ret (o := some (.int 0)) (fun _ => rfl) ?_
      show s_Ek (s_rows 3 L xs) 1298 s_e281.1 6 [(0, .int a)] [.int 0] s_M0 _
      refine s_ek_ret (o := some (.int 0)) (fun _ => rfl) ?_
      show s_Ek (s_rows 3 L xs) 1299 s_e255.1 4 [(0, .ref 151), (1, .int a)] [.int 0] s_M0 _
      refine s_ek_bk 2 (P := 8) (ls' := [(0, .ref 151), (1, .int a)]) (st' := [.int (-1)]) (M' := s_M0) rfl ?_
      refine s_ek_ret (o := some (.int (-1))) (fun _ => rfl) ?_
      exact rfl
    · replace h2 : ¬ (a.toInt < 0) := h2
      replace h2 : 0 ≤ a.toInt := by omega
      omega
  · replace h1 : ¬ (a.toInt < 0) := h1
    replace h1 : 0 ≤ a.toInt := by omega
    refine s_ek_bk 2 (P := 7) (ls' := [(0, .int a)]) (st' := [.int 6, .int a]) (M' := s_M0) rfl ?_
    refine s_ek_if2 (T := 14) rfl rfl (fun h2 => ?_) (fun h2 => ?_)
    · replace h2 : 6 ≤ a.toInt := h2
      refine s_ek_bk 1 (P := 15) (ls' := [(0, .int a)]) (st' := [.int 0]) (M' := s_M0) rfl ?_
      refine s_ek_ret (o := some (.int 0)) (fun _ => rfl) ?_
      show s_Ek (s_rows 3 L xs) 1298 s_e177.1 4 [(0, .ref 0), (1, .int a)] [.int 0] s_M0 _
      refine s_ek_bk 2 (P := 8) (ls' := [(0, .ref 0), (1, .int a)]) (st' := [.int (-1)]) (M' := s_M0) rfl ?_
      refine s_ek_ret (o := some (.int (-1))) (fun _ => rfl) ?_
      show s_Ek (s_rows 3 L xs) 1299 s_e151.1 5 [(0, .ref 0), (1, .int a)] [.int (-1)] s_M0 _
      refine s_ek_bk 4 (P := 11) (ls' := [(2, .int (-1)), (0, .ref 0), (1, .int a)]) (st' := [.int (-1)]) (M' := s_M0) rfl ?_
      refine s_ek_ret (o := some (.int (-1))) (fun _ => rfl) ?_
      refine ⟨(-1), rfl, ?_⟩
      show s_Ek (s_rows 3 L xs) 1299 s_e255.1 0 [(0, .ref 151), (1, .int a)] [] s_M0 _
      refine s_ek_bk 1 (P := 1) (ls' := [(0, .ref 151), (1, .int a)]) (st' := [.int a]) (M' := s_M0) rfl ?_
      refine s_ek_call (ν := s_e281.1) (P := 4) (as := [.int a]) (r := []) (fun _ => rfl) rfl ?_
      show s_Ek (s_rows 3 L xs) 1298 s_e281.1 0 [(0, .int a)] [] s_M0 _
      refine s_ek_bk 3 (P := 3) (ls' := [(0, .int a)]) (st' := [.int 5, .int 0, .int a]) (M' := s_M0) rfl ?_
      refine s_ek_call (ν := s_e181.1) (P := 6) (as := [.int a, .int 0, .int 5]) (r := []) (fun _ => rfl) rfl ?_
      show s_Ek (s_rows 3 L xs) 1297 s_e181.1 0 [(0, .int a), (1, .int 0), (2, .int 5)] [] s_M0 _
      refine s_ek_bk 2 (P := 2) (ls' := [(0, .int a), (1, .int 0), (2, .int 5)]) (st' := [.int 0, .int a]) (M' := s_M0) rfl ?_
      refine s_ek_if2 (T := 14) rfl rfl (fun h3 => ?_) (fun h3 => ?_)
      · replace h3 : a.toInt < 0 := h3
        omega
      · replace h3 : ¬ (a.toInt < 0) := h3
        replace h3 : 0 ≤ a.toInt := by omega
        refine s_ek_bk 2 (P := 7) (ls' := [(0, .int a), (1, .int 0), (2, .int 5)]) (st' := [.int 5, .int a]) (M' := s_M0) rfl ?_
        refine s_ek_if2 (T := 14) rfl rfl (fun h4 => ?_) (fun h4 => ?_)
        · replace h4 : 5 < a.toInt := h4
          refine s_ek_bk 1 (P := 15) (ls' := [(0, .int a), (1, .int 0), (2, .int 5)]) (st' := [.int 0]) (M' := s_M0) rfl ?_
          refine s_ek_ret (o := some (.int 0)) (fun _ => rfl) ?_
          show s_Ek (s_rows 3 L xs) 1298 s_e281.1 6 [(0, .int a)] [.int 0] s_M0 _
          refine s_ek_ret (o := some (.int 0)) (fun _ => rfl) ?_
          show s_Ek (s_rows 3 L xs) 1299 s_e255.1 4 [(0, .ref 151), (1, .int a)] [.int 0] s_M0 _
          refine s_ek_bk 2 (P := 8) (ls' := [(0, .ref 151), (1, .int a)]) (st' := [.int (-1)]) (M' := s_M0) rfl ?_
          refine s_ek_ret (o := some (.int (-1))) (fun _ => rfl) ?_
          exact rfl
        · replace h4 : ¬ (5 < a.toInt) := h4
          replace h4 : a.toInt ≤ 5 := by omega
          omega
    · replace h2 : ¬ (6 ≤ a.toInt) := h2
      replace h2 : a.toInt < 6 := by omega
      refine s_ek_bk 2 (P := 15) (ls' := [(0, .int a)]) (st' := [.int 1]) (M' := s_M0) rfl ?_
      refine s_ek_ret (o := some (.int 1)) (fun _ => rfl) ?_
      show s_Ek (s_rows 3 L xs) 1298 s_e177.1 4 [(0, .ref 0), (1, .int a)] [.int 1] s_M0 _
      refine s_ek_bk 3 (P := 11) (ls' := [(0, .ref 0), (1, .int a)]) (st' := [.int a, .ref 0]) (M' := s_M0) rfl ?_
      refine s_ek_call (ν := s_e176.1) (P := 14) (as := [.ref 0, .int a]) (r := []) (fun _ => rfl) rfl ?_
      show s_Ek (s_rows 3 L xs) 1297 s_e176.1 0 [(0, .ref 0), (1, .int a)] [] s_M0 _
      refine s_ek_bk 1 (P := 1) (ls' := [(0, .ref 0), (1, .int a)]) (st' := [.int a]) (M' := s_M0) rfl ?_
      refine s_ek_if1 (T := 22) rfl rfl (fun h3 => ?_) (fun h3 => ?_)
      · replace h3 : a.toInt < 0 := h3
        omega
      · replace h3 : ¬ (a.toInt < 0) := h3
        replace h3 : 0 ≤ a.toInt := by omega
        refine s_ek_bk 4 (P := 10) (ls' := [(0, .ref 0), (1, .int a)]) (st' := [.int 6, .int a]) (M' := s_M0) rfl ?_
        refine s_ek_if2 (T := 22) rfl rfl (fun h4 => ?_) (fun h4 => ?_)
        · replace h4 : 6 ≤ a.toInt := h4
          omega
        · replace h4 : ¬ (6 ≤ a.toInt) := h4
          replace h4 : a.toInt < 6 := by omega
          refine s_ek_bk 3 (P := 18) (ls' := [(0, .ref 0), (1, .int a)]) (st' := [.int a, .ref 135]) (M' := s_M0) rfl ?_
          rcases s_rg_0_5 (a := a) (by omega) (by omega) with rfl | rfl | rfl | rfl | rfl | rfl
          · refine s_ek_bk 6 (P := 33) (ls' := [(0, .ref 0), (1, .int 0)]) (st' := [.ref 139]) (M' := s_M0) rfl ?_
            refine s_ek_ret (o := some (.ref 139)) (fun _ => rfl) ?_
            show s_Ek (s_rows 3 L xs) 1298 s_e177.1 14 [(0, .ref 0), (1, .int 0)] [.ref 139] s_M0 _
            refine s_ek_bk 2 (P := 16) (ls' := [(2, .ref 139), (0, .ref 0), (1, .int 0)]) (st' := [.ref 139]) (M' := s_M0) rfl ?_
            refine s_ek_call (ν := s_e84.1) (P := 19) (as := [.ref 139]) (r := []) (fun _ => rfl) rfl ?_
            show s_Ek (s_rows 3 L xs) 1297 s_e84.1 0 [(0, .ref 139)] [] s_M0 _
            refine s_ek_bk 6 (P := 13) (ls' := [(0, .ref 139)]) (st' := [.int 1]) (M' := s_M0) rfl ?_
            refine s_ek_ret (o := some (.int 1)) (fun _ => rfl) ?_
            show s_Ek (s_rows 3 L xs) 1298 s_e177.1 19 [(2, .ref 139), (0, .ref 0), (1, .int 0)] [.int 1] s_M0 _
            refine s_ek_bk 2 (P := 24) (ls' := [(2, .ref 139), (0, .ref 0), (1, .int 0)]) (st' := [.int (-11)]) (M' := s_M0) rfl ?_
            refine s_ek_ret (o := some (.int (-11))) (fun _ => rfl) ?_
            show s_Ek (s_rows 3 L xs) 1299 s_e151.1 5 [(0, .ref 0), (1, .int 0)] [.int (-11)] s_M0 _
            refine s_ek_bk 4 (P := 11) (ls' := [(2, .int (-11)), (0, .ref 0), (1, .int 0)]) (st' := [.int (-11)]) (M' := s_M0) rfl ?_
            refine s_ek_ret (o := some (.int (-11))) (fun _ => rfl) ?_
            refine ⟨(-11), rfl, ?_⟩
            show s_Ek (s_rows 3 L xs) 1299 s_e255.1 0 [(0, .ref 151), (1, .int 0)] [] s_M0 _
            refine s_ek_bk 1 (P := 1) (ls' := [(0, .ref 151), (1, .int 0)]) (st' := [.int 0]) (M' := s_M0) rfl ?_
            refine s_ek_call (ν := s_e281.1) (P := 4) (as := [.int 0]) (r := []) (fun _ => rfl) rfl ?_
            show s_Ek (s_rows 3 L xs) 1298 s_e281.1 0 [(0, .int 0)] [] s_M0 _
            refine s_ek_bk 3 (P := 3) (ls' := [(0, .int 0)]) (st' := [.int 5, .int 0, .int 0]) (M' := s_M0) rfl ?_
            refine s_ek_call (ν := s_e181.1) (P := 6) (as := [.int 0, .int 0, .int 5]) (r := []) (fun _ => rfl) rfl ?_
            show s_Ek (s_rows 3 L xs) 1297 s_e181.1 0 [(0, .int 0), (1, .int 0), (2, .int 5)] [] s_M0 _
            refine s_ek_bk 8 (P := 15) (ls' := [(0, .int 0), (1, .int 0), (2, .int 5)]) (st' := [.int 1]) (M' := s_M0) rfl ?_
            refine s_ek_ret (o := some (.int 1)) (fun _ => rfl) ?_
            show s_Ek (s_rows 3 L xs) 1298 s_e281.1 6 [(0, .int 0)] [.int 1] s_M0 _
            refine s_ek_ret (o := some (.int 1)) (fun _ => rfl) ?_
            show s_Ek (s_rows 3 L xs) 1299 s_e255.1 4 [(0, .ref 151), (1, .int 0)] [.int 1] s_M0 _
            refine s_ek_bk 3 (P := 11) (ls' := [(0, .ref 151), (1, .int 0)]) (st' := [.int 0, .ref 151]) (M' := s_M0) rfl ?_
            refine s_ek_call (ν := s_e236.1) (P := 14) (as := [.ref 151, .int 0]) (r := []) (fun _ => rfl) rfl ?_
            show s_Ek (s_rows 3 L xs) 1298 s_e236.1 0 [(0, .ref 151), (1, .int 0)] [] s_M0 _
            refine s_ek_bk 8 (P := 32) (ls' := [(0, .ref 151), (1, .int 0)]) (st' := [.int (-11)]) (M' := s_M0) rfl ?_
            refine s_ek_ret (o := some (.int (-11))) (fun _ => rfl) ?_
            show s_Ek (s_rows 3 L xs) 1299 s_e255.1 14 [(0, .ref 151), (1, .int 0)] [.int (-11)] s_M0 _
            refine s_ek_bk 3 (P := 19) (ls' := [(0, .ref 151), (1, .int 0)]) (st' := [.int 0, .ref 151]) (M' := s_M0) rfl ?_
            refine s_ek_call (ν := s_e236.1) (P := 22) (as := [.ref 151, .int 0]) (r := []) (fun _ => rfl) rfl ?_
            show s_Ek (s_rows 3 L xs) 1298 s_e236.1 0 [(0, .ref 151), (1, .int 0)] [] s_M0 _
            refine s_ek_bk 8 (P := 32) (ls' := [(0, .ref 151), (1, .int 0)]) (st' := [.int (-11)]) (M' := s_M0) rfl ?_
            refine s_ek_ret (o := some (.int (-11))) (fun _ => rfl) ?_
            show s_Ek (s_rows 3 L xs) 1299 s_e255.1 22 [(0, .ref 151), (1, .int 0)] [.int (-11)] s_M0 _
            refine s_ek_ret (o := some (.int (-11))) (fun _ => rfl) ?_
            exact rfl
          · refine s_ek_bk 6 (P := 33) (ls' := [(0, .ref 0), (1, .int 1)]) (st' := [.ref 141]) (M' := s_M0) rfl ?_
            refine s_ek_ret (o := some (.ref 141)) (fun _ => rfl) ?_
            show s_Ek (s_rows 3 L xs) 1298 s_e177.1 14 [(0, .ref 0), (1, .int 1)] [.ref 141] s_M0 _
            refine s_ek_bk 2 (P := 16) (ls' := [(2, .ref 141), (0, .ref 0), (1, .int 1)]) (st' := [.ref 141]) (M' := s_M0) rfl ?_
            refine s_ek_call (ν := s_e84.1) (P := 19) (as := [.ref 141]) (r := []) (fun _ => rfl) rfl ?_
            show s_Ek (s_rows 3 L xs) 1297 s_e84.1 0 [(0, .ref 141)] [] s_M0 _
            refine s_ek_bk 6 (P := 13) (ls' := [(0, .ref 141)]) (st' := [.int 1]) (M' := s_M0) rfl ?_
            refine s_ek_ret (o := some (.int 1)) (fun _ => rfl) ?_
            show s_Ek (s_rows 3 L xs) 1298 s_e177.1 19 [(2, .ref 141), (0, .ref 0), (1, .int 1)] [.int 1] s_M0 _
            refine s_ek_bk 2 (P := 24) (ls' := [(2, .ref 141), (0, .ref 0), (1, .int 1)]) (st' := [.int (-11)]) (M' := s_M0) rfl ?_
            refine s_ek_ret (o := some (.int (-11))) (fun _ => rfl) ?_
            show s_Ek (s_rows 3 L xs) 1299 s_e151.1 5 [(0, .ref 0), (1, .int 1)] [.int (-11)] s_M0 _
            refine s_ek_bk 4 (P := 11) (ls' := [(2, .int (-11)), (0, .ref 0), (1, .int 1)]) (st' := [.int (-11)]) (M' := s_M0) rfl ?_
            refine s_ek_ret (o := some (.int (-11))) (fun _ => rfl) ?_
            refine ⟨(-11), rfl, ?_⟩
            show s_Ek (s_rows 3 L xs) 1299 s_e255.1 0 [(0, .ref 151), (1, .int 1)] [] s_M0 _
            refine s_ek_bk 1 (P := 1) (ls' := [(0, .ref 151), (1, .int 1)]) (st' := [.int 1]) (M' := s_M0) rfl ?_
            refine s_ek_call (ν := s_e281.1) (P := 4) (as := [.int 1]) (r := []) (fun _ => rfl) rfl ?_
            show s_Ek (s_rows 3 L xs) 1298 s_e281.1 0 [(0, .int 1)] [] s_M0 _
            refine s_ek_bk 3 (P := 3) (ls' := [(0, .int 1)]) (st' := [.int 5, .int 0, .int 1]) (M' := s_M0) rfl ?_
            refine s_ek_call (ν := s_e181.1) (P := 6) (as := [.int 1, .int 0, .int 5]) (r := []) (fun _ => rfl) rfl ?_
            show s_Ek (s_rows 3 L xs) 1297 s_e181.1 0 [(0, .int 1), (1, .int 0), (2, .int 5)] [] s_M0 _
            refine s_ek_bk 8 (P := 15) (ls' := [(0, .int 1), (1, .int 0), (2, .int 5)]) (st' := [.int 1]) (M' := s_M0) rfl ?_
            refine s_ek_ret (o := some (.int 1)) (fun _ => rfl) ?_
            show s_Ek (s_rows 3 L xs) 1298 s_e281.1 6 [(0, .int 1)] [.int 1] s_M0 _
            refine s_ek_ret (o := some (.int 1)) (fun _ => rfl) ?_
            show s_Ek (s_rows 3 L xs) 1299 s_e255.1 4 [(0, .ref 151), (1, .int 1)] [.int 1] s_M0 _
            refine s_ek_bk 3 (P := 11) (ls' := [(0, .ref 151), (1, .int 1)]) (st' := [.int 1, .ref 151]) (M' := s_M0) rfl ?_
            refine s_ek_call (ν := s_e236.1) (P := 14) (as := [.ref 151, .int 1]) (r := []) (fun _ => rfl) rfl ?_
            show s_Ek (s_rows 3 L xs) 1298 s_e236.1 0 [(0, .ref 151), (1, .int 1)] [] s_M0 _
            refine s_ek_bk 8 (P := 32) (ls' := [(0, .ref 151), (1, .int 1)]) (st' := [.int (-11)]) (M' := s_M0) rfl ?_
            refine s_ek_ret (o := some (.int (-11))) (fun _ => rfl) ?_
            show s_Ek (s_rows 3 L xs) 1299 s_e255.1 14 [(0, .ref 151), (1, .int 1)] [.int (-11)] s_M0 _
            refine s_ek_bk 3 (P := 19) (ls' := [(0, .ref 151), (1, .int 1)]) (st' := [.int 1, .ref 151]) (M' := s_M0) rfl ?_
            refine s_ek_call (ν := s_e236.1) (P := 22) (as := [.ref 151, .int 1]) (r := []) (fun _ => rfl) rfl ?_
            show s_Ek (s_rows 3 L xs) 1298 s_e236.1 0 [(0, .ref 151), (1, .int 1)] [] s_M0 _
            refine s_ek_bk 8 (P := 32) (ls' := [(0, .ref 151), (1, .int 1)]) (st' := [.int (-11)]) (M' := s_M0) rfl ?_
            refine s_ek_ret (o := some (.int (-11))) (fun _ => rfl) ?_
            show s_Ek (s_rows 3 L xs) 1299 s_e255.1 22 [(0, .ref 151), (1, .int 1)] [.int (-11)] s_M0 _
            refine s_ek_ret (o := some (.int (-11))) (fun _ => rfl) ?_
            exact rfl
          · refine s_ek_bk 6 (P := 33) (ls' := [(0, .ref 0), (1, .int 2)]) (st' := [.ref 143]) (M' := s_M0) rfl ?_
            refine s_ek_ret (o := some (.ref 143)) (fun _ => rfl) ?_
            show s_Ek (s_rows 3 L xs) 1298 s_e177.1 14 [(0, .ref 0), (1, .int 2)] [.ref 143] s_M0 _
            refine s_ek_bk 2 (P := 16) (ls' := [(2, .ref 143), (0, .ref 0), (1, .int 2)]) (st' := [.ref 143]) (M' := s_M0) rfl ?_
            refine s_ek_call (ν := s_e84.1) (P := 19) (as := [.ref 143]) (r := []) (fun _ => rfl) rfl ?_
            show s_Ek (s_rows 3 L xs) 1297 s_e84.1 0 [(0, .ref 143)] [] s_M0 _
            refine s_ek_bk 6 (P := 13) (ls' := [(0, .ref 143)]) (st' := [.int 1]) (M' := s_M0) rfl ?_
            refine s_ek_ret (o := some (.int 1)) (fun _ => rfl) ?_
            show s_Ek (s_rows 3 L xs) 1298 s_e177.1 19 [(2, .ref 143), (0, .ref 0), (1, .int 2)] [.int 1] s_M0 _
            refine s_ek_bk 2 (P := 24) (ls' := [(2, .ref 143), (0, .ref 0), (1, .int 2)]) (st' := [.int (-11)]) (M' := s_M0) rfl ?_
            refine s_ek_ret (o := some (.int (-11))) (fun _ => rfl) ?_
            show s_Ek (s_rows 3 L xs) 1299 s_e151.1 5 [(0, .ref 0), (1, .int 2)] [.int (-11)] s_M0 _
            refine s_ek_bk 4 (P := 11) (ls' := [(2, .int (-11)), (0, .ref 0), (1, .int 2)]) (st' := [.int (-11)]) (M' := s_M0) rfl ?_
            refine s_ek_ret (o := some (.int (-11))) (fun _ => rfl) ?_
            refine ⟨(-11), rfl, ?_⟩
            show s_Ek (s_rows 3 L xs) 1299 s_e255.1 0 [(0, .ref 151), (1, .int 2)] [] s_M0 _
            refine s_ek_bk 1 (P := 1) (ls' := [(0, .ref 151), (1, .int 2)]) (st' := [.int 2]) (M' := s_M0) rfl ?_
            refine s_ek_call (ν := s_e281.1) (P := 4) (as := [.int 2]) (r := []) (fun _ => rfl) rfl ?_
            show s_Ek (s_rows 3 L xs) 1298 s_e281.1 0 [(0, .int 2)] [] s_M0 _
            refine s_ek_bk 3 (P := 3) (ls' := [(0, .int 2)]) (st' := [.int 5, .int 0, .int 2]) (M' := s_M0) rfl ?_
            refine s_ek_call (ν := s_e181.1) (P := 6) (as := [.int 2, .int 0, .int 5]) (r := []) (fun _ => rfl) rfl ?_
            show s_Ek (s_rows 3 L xs) 1297 s_e181.1 0 [(0, .int 2), (1, .int 0), (2, .int 5)] [] s_M0 _
            refine s_ek_bk 8 (P := 15) (ls' := [(0, .int 2), (1, .int 0), (2, .int 5)]) (st' := [.int 1]) (M' := s_M0) rfl ?_
            refine s_ek_ret (o := some (.int 1)) (fun _ => rfl) ?_
            show s_Ek (s_rows 3 L xs) 1298 s_e281.1 6 [(0, .int 2)] [.int 1] s_M0 _
            refine s_ek_ret (o := some (.int 1)) (fun _ => rfl) ?_
            show s_Ek (s_rows 3 L xs) 1299 s_e255.1 4 [(0, .ref 151), (1, .int 2)] [.int 1] s_M0 _
            refine s_ek_bk 3 (P := 11) (ls' := [(0, .ref 151), (1, .int 2)]) (st' := [.int 2, .ref 151]) (M' := s_M0) rfl ?_
            refine s_ek_call (ν := s_e236.1) (P := 14) (as := [.ref 151, .int 2]) (r := []) (fun _ => rfl) rfl ?_
            show s_Ek (s_rows 3 L xs) 1298 s_e236.1 0 [(0, .ref 151), (1, .int 2)] [] s_M0 _
            refine s_ek_bk 8 (P := 32) (ls' := [(0, .ref 151), (1, .int 2)]) (st' := [.int (-11)]) (M' := s_M0) rfl ?_
            refine s_ek_ret (o := some (.int (-11))) (fun _ => rfl) ?_
            show s_Ek (s_rows 3 L xs) 1299 s_e255.1 14 [(0, .ref 151), (1, .int 2)] [.int (-11)] s_M0 _
            refine s_ek_bk 3 (P := 19) (ls' := [(0, .ref 151), (1, .int 2)]) (st' := [.int 2, .ref 151]) (M' := s_M0) rfl ?_
            refine s_ek_call (ν := s_e236.1) (P := 22) (as := [.ref 151, .int 2]) (r := []) (fun _ => rfl) rfl ?_
            show s_Ek (s_rows 3 L xs) 1298 s_e236.1 0 [(0, .ref 151), (1, .int 2)] [] s_M0 _
            refine s_ek_bk 8 (P := 32) (ls' := [(0, .ref 151), (1, .int 2)]) (st' := [.int (-11)]) (M' := s_M0) rfl ?_
            refine s_ek_ret (o := some (.int (-11))) (fun _ => rfl) ?_
            show s_Ek (s_rows 3 L xs) 1299 s_e255.1 22 [(0, .ref 151), (1, .int 2)] [.int (-11)] s_M0 _
            refine s_ek_ret (o := some (.int (-11))) (fun _ => rfl) ?_
            exact rfl
          · refine s_ek_bk 6 (P := 33) (ls' := [(0, .ref 0), (1, .int 3)]) (st' := [.ref 145]) (M' := s_M0) rfl ?_
            refine s_ek_ret (o := some (.ref 145)) (fun _ => rfl) ?_
            show s_Ek (s_rows 3 L xs) 1298 s_e177.1 14 [(0, .ref 0), (1, .int 3)] [.ref 145] s_M0 _
            refine s_ek_bk 2 (P := 16) (ls' := [(2, .ref 145), (0, .ref 0), (1, .int 3)]) (st' := [.ref 145]) (M' := s_M0) rfl ?_
            refine s_ek_call (ν := s_e84.1) (P := 19) (as := [.ref 145]) (r := []) (fun _ => rfl) rfl ?_
            show s_Ek (s_rows 3 L xs) 1297 s_e84.1 0 [(0, .ref 145)] [] s_M0 _
            refine s_ek_bk 6 (P := 13) (ls' := [(0, .ref 145)]) (st' := [.int 1]) (M' := s_M0) rfl ?_
            refine s_ek_ret (o := some (.int 1)) (fun _ => rfl) ?_
            show s_Ek (s_rows 3 L xs) 1298 s_e177.1 19 [(2, .ref 145), (0, .ref 0), (1, .int 3)] [.int 1] s_M0 _
            refine s_ek_bk 2 (P := 24) (ls' := [(2, .ref 145), (0, .ref 0), (1, .int 3)]) (st' := [.int (-11)]) (M' := s_M0) rfl ?_
            refine s_ek_ret (o := some (.int (-11))) (fun _ => rfl) ?_
            show s_Ek (s_rows 3 L xs) 1299 s_e151.1 5 [(0, .ref 0), (1, .int 3)] [.int (-11)] s_M0 _
            refine s_ek_bk 4 (P := 11) (ls' := [(2, .int (-11)), (0, .ref 0), (1, .int 3)]) (st' := [.int (-11)]) (M' := s_M0) rfl ?_
            refine s_ek_ret (o := some (.int (-11))) (fun _ => rfl) ?_
            refine ⟨(-11), rfl, ?_⟩
            show s_Ek (s_rows 3 L xs) 1299 s_e255.1 0 [(0, .ref 151), (1, .int 3)] [] s_M0 _
            refine s_ek_bk 1 (P := 1) (ls' := [(0, .ref 151), (1, .int 3)]) (st' := [.int 3]) (M' := s_M0) rfl ?_
            refine s_ek_call (ν := s_e281.1) (P := 4) (as := [.int 3]) (r := []) (fun _ => rfl) rfl ?_
            show s_Ek (s_rows 3 L xs) 1298 s_e281.1 0 [(0, .int 3)] [] s_M0 _
            refine s_ek_bk 3 (P := 3) (ls' := [(0, .int 3)]) (st' := [.int 5, .int 0, .int 3]) (M' := s_M0) rfl ?_
            refine s_ek_call (ν := s_e181.1) (P := 6) (as := [.int 3, .int 0, .int 5]) (r := []) (fun _ => rfl) rfl ?_
            show s_Ek (s_rows 3 L xs) 1297 s_e181.1 0 [(0, .int 3), (1, .int 0), (2, .int 5)] [] s_M0 _
            refine s_ek_bk 8 (P := 15) (ls' := [(0, .int 3), (1, .int 0), (2, .int 5)]) (st' := [.int 1]) (M' := s_M0) rfl ?_
            refine s_ek_ret (o := some (.int 1)) (fun _ => rfl) ?_
            show s_Ek (s_rows 3 L xs) 1298 s_e281.1 6 [(0, .int 3)] [.int 1] s_M0 _
            refine s_ek_ret (o := some (.int 1)) (fun _ => rfl) ?_
            show s_Ek (s_rows 3 L xs) 1299 s_e255.1 4 [(0, .ref 151), (1, .int 3)] [.int 1] s_M0 _
            refine s_ek_bk 3 (P := 11) (ls' := [(0, .ref 151), (1, .int 3)]) (st' := [.int 3, .ref 151]) (M' := s_M0) rfl ?_
            refine s_ek_call (ν := s_e236.1) (P := 14) (as := [.ref 151, .int 3]) (r := []) (fun _ => rfl) rfl ?_
            show s_Ek (s_rows 3 L xs) 1298 s_e236.1 0 [(0, .ref 151), (1, .int 3)] [] s_M0 _
            refine s_ek_bk 8 (P := 32) (ls' := [(0, .ref 151), (1, .int 3)]) (st' := [.int (-11)]) (M' := s_M0) rfl ?_
            refine s_ek_ret (o := some (.int (-11))) (fun _ => rfl) ?_
            show s_Ek (s_rows 3 L xs) 1299 s_e255.1 14 [(0, .ref 151), (1, .int 3)] [.int (-11)] s_M0 _
            refine s_ek_bk 3 (P := 19) (ls' := [(0, .ref 151), (1, .int 3)]) (st' := [.int 3, .ref 151]) (M' := s_M0) rfl ?_
            refine s_ek_call (ν := s_e236.1) (P := 22) (as := [.ref 151, .int 3]) (r := []) (fun _ => rfl) rfl ?_
            show s_Ek (s_rows 3 L xs) 1298 s_e236.1 0 [(0, .ref 151), (1, .int 3)] [] s_M0 _
            refine s_ek_bk 8 (P := 32) (ls' := [(0, .ref 151), (1, .int 3)]) (st' := [.int (-11)]) (M' := s_M0) rfl ?_
            refine s_ek_ret (o := some (.int (-11))) (fun _ => rfl) ?_
            show s_Ek (s_rows 3 L xs) 1299 s_e255.1 22 [(0, .ref 151), (1, .int 3)] [.int (-11)] s_M0 _
            refine s_ek_ret (o := some (.int (-11))) (fun _ => rfl) ?_
            exact rfl
          · refine s_ek_bk 6 (P := 33) (ls' := [(0, .ref 0), (1, .int 4)]) (st' := [.ref 147]) (M' := s_M0) rfl ?_
            refine s_ek_ret (o := some (.ref 147)) (fun _ => rfl) ?_
            show s_Ek (s_rows 3 L xs) 1298 s_e177.1 14 [(0, .ref 0), (1, .int 4)] [.ref 147] s_M0 _
            refine s_ek_bk 2 (P := 16) (ls' := [(2, .ref 147), (0, .ref 0), (1, .int 4)]) (st' := [.ref 147]) (M' := s_M0) rfl ?_
            refine s_ek_call (ν := s_e84.1) (P := 19) (as := [.ref 147]) (r := []) (fun _ => rfl) rfl ?_
            show s_Ek (s_rows 3 L xs) 1297 s_e84.1 0 [(0, .ref 147)] [] s_M0 _
            refine s_ek_bk 6 (P := 13) (ls' := [(0, .ref 147)]) (st' := [.int 1]) (M' := s_M0) rfl ?_
            refine s_ek_ret (o := some (.int 1)) (fun _ => rfl) ?_
            show s_Ek (s_rows 3 L xs) 1298 s_e177.1 19 [(2, .ref 147), (0, .ref 0), (1, .int 4)] [.int 1] s_M0 _
            refine s_ek_bk 2 (P := 24) (ls' := [(2, .ref 147), (0, .ref 0), (1, .int 4)]) (st' := [.int (-11)]) (M' := s_M0) rfl ?_
            refine s_ek_ret (o := some (.int (-11))) (fun _ => rfl) ?_
            show s_Ek (s_rows 3 L xs) 1299 s_e151.1 5 [(0, .ref 0), (1, .int 4)] [.int (-11)] s_M0 _
            refine s_ek_bk 4 (P := 11) (ls' := [(2, .int (-11)), (0, .ref 0), (1, .int 4)]) (st' := [.int (-11)]) (M' := s_M0) rfl ?_
            refine s_ek_ret (o := some (.int (-11))) (fun _ => rfl) ?_
            refine ⟨(-11), rfl, ?_⟩
            show s_Ek (s_rows 3 L xs) 1299 s_e255.1 0 [(0, .ref 151), (1, .int 4)] [] s_M0 _
            refine s_ek_bk 1 (P := 1) (ls' := [(0, .ref 151), (1, .int 4)]) (st' := [.int 4]) (M' := s_M0) rfl ?_
            refine s_ek_call (ν := s_e281.1) (P := 4) (as := [.int 4]) (r := []) (fun _ => rfl) rfl ?_
            show s_Ek (s_rows 3 L xs) 1298 s_e281.1 0 [(0, .int 4)] [] s_M0 _
            refine s_ek_bk 3 (P := 3) (ls' := [(0, .int 4)]) (st' := [.int 5, .int 0, .int 4]) (M' := s_M0) rfl ?_
            refine s_ek_call (ν := s_e181.1) (P := 6) (as := [.int 4, .int 0, .int 5]) (r := []) (fun _ => rfl) rfl ?_
            show s_Ek (s_rows 3 L xs) 1297 s_e181.1 0 [(0, .int 4), (1, .int 0), (2, .int 5)] [] s_M0 _
            refine s_ek_bk 8 (P := 15) (ls' := [(0, .int 4), (1, .int 0), (2, .int 5)]) (st' := [.int 1]) (M' := s_M0) rfl ?_
            refine s_ek_ret (o := some (.int 1)) (fun _ => rfl) ?_
            show s_Ek (s_rows 3 L xs) 1298 s_e281.1 6 [(0, .int 4)] [.int 1] s_M0 _
            refine s_ek_ret (o := some (.int 1)) (fun _ => rfl) ?_
            show s_Ek (s_rows 3 L xs) 1299 s_e255.1 4 [(0, .ref 151), (1, .int 4)] [.int 1] s_M0 _
            refine s_ek_bk 3 (P := 11) (ls' := [(0, .ref 151), (1, .int 4)]) (st' := [.int 4, .ref 151]) (M' := s_M0) rfl ?_
            refine s_ek_call (ν := s_e236.1) (P := 14) (as := [.ref 151, .int 4]) (r := []) (fun _ => rfl) rfl ?_
            show s_Ek (s_rows 3 L xs) 1298 s_e236.1 0 [(0, .ref 151), (1, .int 4)] [] s_M0 _
            refine s_ek_bk 8 (P := 32) (ls' := [(0, .ref 151), (1, .int 4)]) (st' := [.int (-11)]) (M' := s_M0) rfl ?_
            refine s_ek_ret (o := some (.int (-11))) (fun _ => rfl) ?_
            show s_Ek (s_rows 3 L xs) 1299 s_e255.1 14 [(0, .ref 151), (1, .int 4)] [.int (-11)] s_M0 _
            refine s_ek_bk 3 (P := 19) (ls' := [(0, .ref 151), (1, .int 4)]) (st' := [.int 4, .ref 151]) (M' := s_M0) rfl ?_
            refine s_ek_call (ν := s_e236.1) (P := 22) (as := [.ref 151, .int 4]) (r := []) (fun _ => rfl) rfl ?_
            show s_Ek (s_rows 3 L xs) 1298 s_e236.1 0 [(0, .ref 151), (1, .int 4)] [] s_M0 _
            refine s_ek_bk 8 (P := 32) (ls' := [(0, .ref 151), (1, .int 4)]) (st' := [.int (-11)]) (M' := s_M0) rfl ?_
            refine s_ek_ret (o := some (.int (-11))) (fun _ => rfl) ?_
            show s_Ek (s_rows 3 L xs) 1299 s_e255.1 22 [(0, .ref 151), (1, .int 4)] [.int (-11)] s_M0 _
            refine s_ek_ret (o := some (.int (-11))) (fun _ => rfl) ?_
            exact rfl
          · refine s_ek_bk 6 (P := 33) (ls' := [(0, .ref 0), (1, .int 5)]) (st' := [.ref 149]) (M' := s_M0) rfl ?_
            refine s_ek_ret (o := some (.ref 149)) (fun _ => rfl) ?_
            show s_Ek (s_rows 3 L xs) 1298 s_e177.1 14 [(0, .ref 0), (1, .int 5)] [.ref 149] s_M0 _
            refine s_ek_bk 2 (P := 16) (ls' := [(2, .ref 149), (0, .ref 0), (1, .int 5)]) (st' := [.ref 149]) (M' := s_M0) rfl ?_
            refine s_ek_call (ν := s_e84.1) (P := 19) (as := [.ref 149]) (r := []) (fun _ => rfl) rfl ?_
            show s_Ek (s_rows 3 L xs) 1297 s_e84.1 0 [(0, .ref 149)] [] s_M0 _
            refine s_ek_bk 6 (P := 13) (ls' := [(0, .ref 149)]) (st' := [.int 1]) (M' := s_M0) rfl ?_
            refine s_ek_ret (o := some (.int 1)) (fun _ => rfl) ?_
            show s_Ek (s_rows 3 L xs) 1298 s_e177.1 19 [(2, .ref 149), (0, .ref 0), (1, .int 5)] [.int 1] s_M0 _
            refine s_ek_bk 2 (P := 24) (ls' := [(2, .ref 149), (0, .ref 0), (1, .int 5)]) (st' := [.int (-11)]) (M' := s_M0) rfl ?_
            refine s_ek_ret (o := some (.int (-11))) (fun _ => rfl) ?_
            show s_Ek (s_rows 3 L xs) 1299 s_e151.1 5 [(0, .ref 0), (1, .int 5)] [.int (-11)] s_M0 _
            refine s_ek_bk 4 (P := 11) (ls' := [(2, .int (-11)), (0, .ref 0), (1, .int 5)]) (st' := [.int (-11)]) (M' := s_M0) rfl ?_
            refine s_ek_ret (o := some (.int (-11))) (fun _ => rfl) ?_
            refine ⟨(-11), rfl, ?_⟩
            show s_Ek (s_rows 3 L xs) 1299 s_e255.1 0 [(0, .ref 151), (1, .int 5)] [] s_M0 _
            refine s_ek_bk 1 (P := 1) (ls' := [(0, .ref 151), (1, .int 5)]) (st' := [.int 5]) (M' := s_M0) rfl ?_
            refine s_ek_call (ν := s_e281.1) (P := 4) (as := [.int 5]) (r := []) (fun _ => rfl) rfl ?_
            show s_Ek (s_rows 3 L xs) 1298 s_e281.1 0 [(0, .int 5)] [] s_M0 _
            refine s_ek_bk 3 (P := 3) (ls' := [(0, .int 5)]) (st' := [.int 5, .int 0, .int 5]) (M' := s_M0) rfl ?_
            refine s_ek_call (ν := s_e181.1) (P := 6) (as := [.int 5, .int 0, .int 5]) (r := []) (fun _ => rfl) rfl ?_
            show s_Ek (s_rows 3 L xs) 1297 s_e181.1 0 [(0, .int 5), (1, .int 0), (2, .int 5)] [] s_M0 _
            refine s_ek_bk 8 (P := 15) (ls' := [(0, .int 5), (1, .int 0), (2, .int 5)]) (st' := [.int 1]) (M' := s_M0) rfl ?_
            refine s_ek_ret (o := some (.int 1)) (fun _ => rfl) ?_
            show s_Ek (s_rows 3 L xs) 1298 s_e281.1 6 [(0, .int 5)] [.int 1] s_M0 _
            refine s_ek_ret (o := some (.int 1)) (fun _ => rfl) ?_
            show s_Ek (s_rows 3 L xs) 1299 s_e255.1 4 [(0, .ref 151), (1, .int 5)] [.int 1] s_M0 _
            refine s_ek_bk 3 (P := 11) (ls' := [(0, .ref 151), (1, .int 5)]) (st' := [.int 5, .ref 151]) (M' := s_M0) rfl ?_
            refine s_ek_call (ν := s_e236.1) (P := 14) (as := [.ref 151, .int 5]) (r := []) (fun _ => rfl) rfl ?_
            show s_Ek (s_rows 3 L xs) 1298 s_e236.1 0 [(0, .ref 151), (1, .int 5)] [] s_M0 _
            refine s_ek_bk 8 (P := 32) (ls' := [(0, .ref 151), (1, .int 5)]) (st' := [.int (-11)]) (M' := s_M0) rfl ?_
            refine s_ek_ret (o := some (.int (-11))) (fun _ => rfl) ?_
            show s_Ek (s_rows 3 L xs) 1299 s_e255.1 14 [(0, .ref 151), (1, .int 5)] [.int (-11)] s_M0 _
            refine s_ek_bk 3 (P := 19) (ls' := [(0, .ref 151), (1, .int 5)]) (st' := [.int 5, .ref 151]) (M' := s_M0) rfl ?_
            refine s_ek_call (ν := s_e236.1) (P := 22) (as := [.ref 151, .int 5]) (r := []) (fun _ => rfl) rfl ?_
            show s_Ek (s_rows 3 L xs) 1298 s_e236.1 0 [(0, .ref 151), (1, .int 5)] [] s_M0 _
            refine s_ek_bk 8 (P := 32) (ls' := [(0, .ref 151), (1, .int 5)]) (st' := [.int (-11)]) (M' := s_M0) rfl ?_
            refine s_ek_ret (o := some (.int (-11))) (fun _ => rfl) ?_
            show s_Ek (s_rows 3 L xs) 1299 s_e255.1 22 [(0, .ref 151), (1, .int 5)] [.int (-11)] s_M0 _
            refine s_ek_ret (o := some (.int (-11))) (fun _ => rfl) ?_
            exact rfl
set_option maxHeartbeats 20000000 in
set_option maxRecDepth 100000 in
theorem s_op_under (L : Nat) (xs : Nat → Int32) (a : Int32) (b : Int32) : s_Ek (s_rows 3 L xs) 1299 s_e152.1 0 (lv_args 0 [.ref 0, .int a, .int b]) [] s_M0 (fun v M1 => ∃ r : Int32, v = some (.int r) ∧ s_Ek (s_rows 3 L xs) 1299 s_e256.1 0 (lv_args 0 [.ref 151, .int a, .int b]) [] M1 (fun w _ => w = some (.int r))) := by
  show s_Ek (s_rows 3 L xs) 1299 s_e152.1 0 [(0, .ref 0), (1, .int a), (2, .int b)] [] s_M0 _
  refine s_ek_bk 3 (P := 5) (ls' := [(0, .ref 0), (1, .int a), (2, .int b)]) (st' := [.int a, .ref 8]) (M' := s_M0) rfl ?_
  refine s_ek_call (ν := s_e40.1) (P := 8) (as := [.ref 8, .int a]) (r := []) (fun _ => rfl) rfl ?_
  show s_Ek (s_rows 3 L xs) 1298 s_e40.1 0 [(0, .ref 8), (1, .int a)] [] s_M0 _
  refine s_ek_bk 1 (P := 1) (ls' := [(0, .ref 8), (1, .int a)]) (st' := [.int a]) (M' := s_M0) rfl ?_
  refine s_ek_if1 (T := 16) rfl rfl (fun h1 => ?_) (fun h1 => ?_)
  · replace h1 : a.toInt < 0 := h1
    refine s_ek_bk 1 (P := 17) (ls' := [(0, .ref 8), (1, .int a)]) (st' := [.int 0]) (M' := s_M0) rfl ?_
    refine s_ek_ret (o := some (.int 0)) (fun _ => rfl) ?_
    show s_Ek (s_rows 3 L xs) 1299 s_e152.1 8 [(0, .ref 0), (1, .int a), (2, .int b)] [.int 0] s_M0 _
    refine s_ek_bk 2 (P := 19) (ls' := [(0, .ref 0), (1, .int a), (2, .int b)]) (st' := [.int (-1)]) (M' := s_M0) rfl ?_
    refine s_ek_ret (o := some (.int (-1))) (fun _ => rfl) ?_
    refine ⟨(-1), rfl, ?_⟩
    show s_Ek (s_rows 3 L xs) 1299 s_e256.1 0 [(0, .ref 151), (1, .int a), (2, .int b)] [] s_M0 _
    refine s_ek_bk 2 (P := 2) (ls' := [(0, .ref 151), (1, .int a), (2, .int b)]) (st' := [.int a, .ref 151]) (M' := s_M0) rfl ?_
    refine s_ek_call (ν := s_e201.1) (P := 5) (as := [.ref 151, .int a]) (r := []) (fun _ => rfl) rfl ?_
    show s_Ek (s_rows 3 L xs) 1298 s_e201.1 0 [(0, .ref 151), (1, .int a)] [] s_M0 _
    refine s_ek_bk 6 (P := 8) (ls' := [(0, .ref 151), (1, .int a)]) (st' := [.int (-1), .int 0, .int a]) (M' := s_M0) rfl ?_
    refine s_ek_call (ν := s_e181.1) (P := 11) (as := [.int a, .int 0, .int (-1)]) (r := []) (fun _ => rfl) rfl ?_
    show s_Ek (s_rows 3 L xs) 1297 s_e181.1 0 [(0, .int a), (1, .int 0), (2, .int (-1))] [] s_M0 _
    refine s_ek_bk 2 (P := 2) (ls' := [(0, .int a), (1, .int 0), (2, .int (-1))]) (st' := [.int 0, .int a]) (M' := s_M0) rfl ?_
    refine s_ek_if2 (T := 14) rfl rfl (fun h2 => ?_) (fun h2 => ?_)
    · replace h2 : a.toInt < 0 := h2
      refine s_ek_bk 1 (P := 15) (ls' := [(0, .int a), (1, .int 0), (2, .int (-1))]) (st' := [.int 0]) (M' := s_M0) rfl ?_
      refine s_ek_ret (o := some (.int 0)) (fun _ => rfl) ?_
      show s_Ek (s_rows 3 L xs) 1298 s_e201.1 11 [(0, .ref 151), (1, .int a)] [.int 0] s_M0 _
      refine s_ek_ret (o := some (.int 0)) (fun _ => rfl) ?_
      show s_Ek (s_rows 3 L xs) 1299 s_e256.1 5 [(0, .ref 151), (1, .int a), (2, .int b)] [.int 0] s_M0 _
      refine s_ek_bk 2 (P := 18) (ls' := [(0, .ref 151), (1, .int a), (2, .int b)]) (st' := [.int (-1)]) (M' := s_M0) rfl ?_
      refine s_ek_ret (o := some (.int (-1))) (fun _ => rfl) ?_
      exact rfl
    · replace h2 : ¬ (a.toInt < 0) := h2
      replace h2 : 0 ≤ a.toInt := by omega
      omega
  · replace h1 : ¬ (a.toInt < 0) := h1
    replace h1 : 0 ≤ a.toInt := by omega
    refine s_ek_bk 3 (P := 9) (ls' := [(0, .ref 8), (1, .int a)]) (st' := [.int 0, .int a]) (M' := s_M0) rfl ?_
    refine s_ek_if2 (T := 16) rfl rfl (fun h2 => ?_) (fun h2 => ?_)
    · replace h2 : 0 ≤ a.toInt := h2
      refine s_ek_bk 1 (P := 17) (ls' := [(0, .ref 8), (1, .int a)]) (st' := [.int 0]) (M' := s_M0) rfl ?_
      refine s_ek_ret (o := some (.int 0)) (fun _ => rfl) ?_
      show s_Ek (s_rows 3 L xs) 1299 s_e152.1 8 [(0, .ref 0), (1, .int a), (2, .int b)] [.int 0] s_M0 _
      refine s_ek_bk 2 (P := 19) (ls' := [(0, .ref 0), (1, .int a), (2, .int b)]) (st' := [.int (-1)]) (M' := s_M0) rfl ?_
      refine s_ek_ret (o := some (.int (-1))) (fun _ => rfl) ?_
      refine ⟨(-1), rfl, ?_⟩
      show s_Ek (s_rows 3 L xs) 1299 s_e256.1 0 [(0, .ref 151), (1, .int a), (2, .int b)] [] s_M0 _
      refine s_ek_bk 2 (P := 2) (ls' := [(0, .ref 151), (1, .int a), (2, .int b)]) (st' := [.int a, .ref 151]) (M' := s_M0) rfl ?_
      refine s_ek_call (ν := s_e201.1) (P := 5) (as := [.ref 151, .int a]) (r := []) (fun _ => rfl) rfl ?_
      show s_Ek (s_rows 3 L xs) 1298 s_e201.1 0 [(0, .ref 151), (1, .int a)] [] s_M0 _
      refine s_ek_bk 6 (P := 8) (ls' := [(0, .ref 151), (1, .int a)]) (st' := [.int (-1), .int 0, .int a]) (M' := s_M0) rfl ?_
      refine s_ek_call (ν := s_e181.1) (P := 11) (as := [.int a, .int 0, .int (-1)]) (r := []) (fun _ => rfl) rfl ?_
      show s_Ek (s_rows 3 L xs) 1297 s_e181.1 0 [(0, .int a), (1, .int 0), (2, .int (-1))] [] s_M0 _
      refine s_ek_bk 2 (P := 2) (ls' := [(0, .int a), (1, .int 0), (2, .int (-1))]) (st' := [.int 0, .int a]) (M' := s_M0) rfl ?_
      refine s_ek_if2 (T := 14) rfl rfl (fun h3 => ?_) (fun h3 => ?_)
      · replace h3 : a.toInt < 0 := h3
        omega
      · replace h3 : ¬ (a.toInt < 0) := h3
        replace h3 : 0 ≤ a.toInt := by omega
        refine s_ek_bk 2 (P := 7) (ls' := [(0, .int a), (1, .int 0), (2, .int (-1))]) (st' := [.int (-1), .int a]) (M' := s_M0) rfl ?_
        refine s_ek_if2 (T := 14) rfl rfl (fun h4 => ?_) (fun h4 => ?_)
        · replace h4 : (-1) < a.toInt := h4
          refine s_ek_bk 1 (P := 15) (ls' := [(0, .int a), (1, .int 0), (2, .int (-1))]) (st' := [.int 0]) (M' := s_M0) rfl ?_
          refine s_ek_ret (o := some (.int 0)) (fun _ => rfl) ?_
          show s_Ek (s_rows 3 L xs) 1298 s_e201.1 11 [(0, .ref 151), (1, .int a)] [.int 0] s_M0 _
          refine s_ek_ret (o := some (.int 0)) (fun _ => rfl) ?_
          show s_Ek (s_rows 3 L xs) 1299 s_e256.1 5 [(0, .ref 151), (1, .int a), (2, .int b)] [.int 0] s_M0 _
          refine s_ek_bk 2 (P := 18) (ls' := [(0, .ref 151), (1, .int a), (2, .int b)]) (st' := [.int (-1)]) (M' := s_M0) rfl ?_
          refine s_ek_ret (o := some (.int (-1))) (fun _ => rfl) ?_
          exact rfl
        · replace h4 : ¬ ((-1) < a.toInt) := h4
          replace h4 : a.toInt ≤ (-1) := by omega
          omega
    · replace h2 : ¬ (0 ≤ a.toInt) := h2
      replace h2 : a.toInt < 0 := by omega
      omega
set_option maxHeartbeats 20000000 in
set_option maxRecDepth 100000 in
theorem s_op_body (L : Nat) (xs : Nat → Int32) (a : Int32) : s_Ek (s_rows 3 L xs) 1299 s_e159.1 0 (lv_args 0 [.ref 0, .int a]) [] s_M0 (fun v M1 => ∃ r : Int32, v = some (.int r) ∧ s_Ek (s_rows 3 L xs) 1299 s_e265.1 0 (lv_args 0 [.ref 151, .int a]) [] M1 (fun w _ => w = some (.int r))) := by
  show s_Ek (s_rows 3 L xs) 1299 s_e159.1 0 [(0, .ref 0), (1, .int a)] [] s_M0 _
  refine s_ek_bk 1 (P := 1) (ls' := [(0, .ref 0), (1, .int a)]) (st' := [.int a]) (M' := s_M0) rfl ?_
  refine s_ek_call (ν := s_e25.1) (P := 4) (as := [.int a]) (r := []) (fun _ => rfl) rfl ?_
  show s_Ek (s_rows 3 L xs) 1298 s_e25.1 0 [(0, .int a)] [] s_M0 _
  refine s_ek_bk 1 (P := 1) (ls' := [(0, .int a)]) (st' := [.int a]) (M' := s_M0) rfl ?_
  refine s_ek_if1 (T := 14) rfl rfl (fun h1 => ?_) (fun h1 => ?_)
  · replace h1 : a.toInt < 0 := h1
    refine s_ek_bk 1 (P := 15) (ls' := [(0, .int a)]) (st' := [.int 0]) (M' := s_M0) rfl ?_
    refine s_ek_ret (o := some (.int 0)) (fun _ => rfl) ?_
    show s_Ek (s_rows 3 L xs) 1299 s_e159.1 4 [(0, .ref 0), (1, .int a)] [.int 0] s_M0 _
    refine s_ek_bk 2 (P := 8) (ls' := [(0, .ref 0), (1, .int a)]) (st' := [.int (-1)]) (M' := s_M0) rfl ?_
    refine s_ek_ret (o := some (.int (-1))) (fun _ => rfl) ?_
    refine ⟨(-1), rfl, ?_⟩
    show s_Ek (s_rows 3 L xs) 1299 s_e265.1 0 [(0, .ref 151), (1, .int a)] [] s_M0 _
    refine s_ek_bk 3 (P := 4) (ls' := [(0, .ref 151), (1, .int a)]) (st' := [.int 7, .int 0, .int a]) (M' := s_M0) rfl ?_
    refine s_ek_call (ν := s_e181.1) (P := 7) (as := [.int a, .int 0, .int 7]) (r := []) (fun _ => rfl) rfl ?_
    show s_Ek (s_rows 3 L xs) 1298 s_e181.1 0 [(0, .int a), (1, .int 0), (2, .int 7)] [] s_M0 _
    refine s_ek_bk 2 (P := 2) (ls' := [(0, .int a), (1, .int 0), (2, .int 7)]) (st' := [.int 0, .int a]) (M' := s_M0) rfl ?_
    refine s_ek_if2 (T := 14) rfl rfl (fun h2 => ?_) (fun h2 => ?_)
    · replace h2 : a.toInt < 0 := h2
      refine s_ek_bk 1 (P := 15) (ls' := [(0, .int a), (1, .int 0), (2, .int 7)]) (st' := [.int 0]) (M' := s_M0) rfl ?_
      refine s_ek_ret (o := some (.int 0)) (fun _ => rfl) ?_
      show s_Ek (s_rows 3 L xs) 1299 s_e265.1 7 [(0, .ref 151), (1, .int a)] [.int 0] s_M0 _
      refine s_ek_bk 2 (P := 11) (ls' := [(0, .ref 151), (1, .int a)]) (st' := [.int (-1)]) (M' := s_M0) rfl ?_
      refine s_ek_ret (o := some (.int (-1))) (fun _ => rfl) ?_
      exact rfl
    · replace h2 : ¬ (a.toInt < 0) := h2
      replace h2 : 0 ≤ a.toInt := by omega
      omega
  · replace h1 : ¬ (a.toInt < 0) := h1
    replace h1 : 0 ≤ a.toInt := by omega
    refine s_ek_bk 2 (P := 7) (ls' := [(0, .int a)]) (st' := [.int 8, .int a]) (M' := s_M0) rfl ?_
    refine s_ek_if2 (T := 14) rfl rfl (fun h2 => ?_) (fun h2 => ?_)
    · replace h2 : 8 ≤ a.toInt := h2
      refine s_ek_bk 1 (P := 15) (ls' := [(0, .int a)]) (st' := [.int 0]) (M' := s_M0) rfl ?_
      refine s_ek_ret (o := some (.int 0)) (fun _ => rfl) ?_
      show s_Ek (s_rows 3 L xs) 1299 s_e159.1 4 [(0, .ref 0), (1, .int a)] [.int 0] s_M0 _
      refine s_ek_bk 2 (P := 8) (ls' := [(0, .ref 0), (1, .int a)]) (st' := [.int (-1)]) (M' := s_M0) rfl ?_
      refine s_ek_ret (o := some (.int (-1))) (fun _ => rfl) ?_
      refine ⟨(-1), rfl, ?_⟩
      show s_Ek (s_rows 3 L xs) 1299 s_e265.1 0 [(0, .ref 151), (1, .int a)] [] s_M0 _
      refine s_ek_bk 3 (P := 4) (ls' := [(0, .ref 151), (1, .int a)]) (st' := [.int 7, .int 0, .int a]) (M' := s_M0) rfl ?_
      refine s_ek_call (ν := s_e181.1) (P := 7) (as := [.int a, .int 0, .int 7]) (r := []) (fun _ => rfl) rfl ?_
      show s_Ek (s_rows 3 L xs) 1298 s_e181.1 0 [(0, .int a), (1, .int 0), (2, .int 7)] [] s_M0 _
      refine s_ek_bk 2 (P := 2) (ls' := [(0, .int a), (1, .int 0), (2, .int 7)]) (st' := [.int 0, .int a]) (M' := s_M0) rfl ?_
      refine s_ek_if2 (T := 14) rfl rfl (fun h3 => ?_) (fun h3 => ?_)
      · replace h3 : a.toInt < 0 := h3
        omega
      · replace h3 : ¬ (a.toInt < 0) := h3
        replace h3 : 0 ≤ a.toInt := by omega
        refine s_ek_bk 2 (P := 7) (ls' := [(0, .int a), (1, .int 0), (2, .int 7)]) (st' := [.int 7, .int a]) (M' := s_M0) rfl ?_
        refine s_ek_if2 (T := 14) rfl rfl (fun h4 => ?_) (fun h4 => ?_)
        · replace h4 : 7 < a.toInt := h4
          refine s_ek_bk 1 (P := 15) (ls' := [(0, .int a), (1, .int 0), (2, .int 7)]) (st' := [.int 0]) (M' := s_M0) rfl ?_
          refine s_ek_ret (o := some (.int 0)) (fun _ => rfl) ?_
          show s_Ek (s_rows 3 L xs) 1299 s_e265.1 7 [(0, .ref 151), (1, .int a)] [.int 0] s_M0 _
          refine s_ek_bk 2 (P := 11) (ls' := [(0, .ref 151), (1, .int a)]) (st' := [.int (-1)]) (M' := s_M0) rfl ?_
          refine s_ek_ret (o := some (.int (-1))) (fun _ => rfl) ?_
          exact rfl
        · replace h4 : ¬ (7 < a.toInt) := h4
          replace h4 : a.toInt ≤ 7 := by omega
          omega
    · replace h2 : ¬ (8 ≤ a.toInt) := h2
      replace h2 : a.toInt < 8 := by omega
      refine s_ek_bk 2 (P := 15) (ls' := [(0, .int a)]) (st' := [.int 1]) (M' := s_M0) rfl ?_
      refine s_ek_ret (o := some (.int 1)) (fun _ => rfl) ?_
      show s_Ek (s_rows 3 L xs) 1299 s_e159.1 4 [(0, .ref 0), (1, .int a)] [.int 1] s_M0 _
      refine s_ek_bk 4 (P := 14) (ls' := [(0, .ref 0), (1, .int a)]) (st' := [.int a, .ref 132]) (M' := s_M0) rfl ?_
      refine s_ek_call (ν := s_e28.1) (P := 17) (as := [.ref 132, .int a]) (r := []) (fun _ => rfl) rfl ?_
      show s_Ek (s_rows 3 L xs) 1298 s_e28.1 0 [(0, .ref 132), (1, .int a)] [] s_M0 _
      refine s_ek_bk 15 (P := 31) (ls' := [(0, .ref 132), (1, .int a)]) (st' := []) (M' := (s_M0.set 133 (13, ((List.replicate 50 (Value.int 0)).set 0 (Value.int a))))) rfl ?_
      refine s_ek_bk 6 (P := 41) (ls' := [(0, .ref 132), (1, .int a)]) (st' := []) (M' := ((s_M0.set 133 (13, ((List.replicate 50 (Value.int 0)).set 0 (Value.int a)))).set 132 (2, ([Value.int 0, Value.int 0, Value.ref 133, Value.ref 134].set 0 (Value.int 1))))) rfl ?_
      refine s_ek_bk 4 (P := 47) (ls' := [(0, .ref 132), (1, .int a)]) (st' := [.int 0]) (M' := ((s_M0.set 133 (13, ((List.replicate 50 (Value.int 0)).set 0 (Value.int a)))).set 132 (2, ([Value.int 0, Value.int 0, Value.ref 133, Value.ref 134].set 0 (Value.int 1))))) rfl ?_
      refine s_ek_ret (o := some (.int 0)) (fun _ => rfl) ?_
      show s_Ek (s_rows 3 L xs) 1299 s_e159.1 17 [(0, .ref 0), (1, .int a)] [.int 0] ((s_M0.set 133 (13, ((List.replicate 50 (Value.int 0)).set 0 (Value.int a)))).set 132 (2, ([Value.int 0, Value.int 0, Value.ref 133, Value.ref 134].set 0 (Value.int 1)))) _
      refine s_ek_bk 4 (P := 28) (ls' := [(2, .int 0), (0, .ref 0), (1, .int a)]) (st' := [.int 0]) (M' := ((s_M0.set 133 (13, ((List.replicate 50 (Value.int 0)).set 0 (Value.int a)))).set 132 (2, ([Value.int 0, Value.int 0, Value.ref 133, Value.ref 134].set 0 (Value.int 1))))) rfl ?_
      refine s_ek_ret (o := some (.int 0)) (fun _ => rfl) ?_
      refine ⟨0, rfl, ?_⟩
      show s_Ek (s_rows 3 L xs) 1299 s_e265.1 0 [(0, .ref 151), (1, .int a)] [] ((s_M0.set 133 (13, ((List.replicate 50 (Value.int 0)).set 0 (Value.int a)))).set 132 (2, ([Value.int 0, Value.int 0, Value.ref 133, Value.ref 134].set 0 (Value.int 1)))) _
      refine s_ek_bk 3 (P := 4) (ls' := [(0, .ref 151), (1, .int a)]) (st' := [.int 7, .int 0, .int a]) (M' := ((s_M0.set 133 (13, ((List.replicate 50 (Value.int 0)).set 0 (Value.int a)))).set 132 (2, ([Value.int 0, Value.int 0, Value.ref 133, Value.ref 134].set 0 (Value.int 1))))) rfl ?_
      refine s_ek_call (ν := s_e181.1) (P := 7) (as := [.int a, .int 0, .int 7]) (r := []) (fun _ => rfl) rfl ?_
      show s_Ek (s_rows 3 L xs) 1298 s_e181.1 0 [(0, .int a), (1, .int 0), (2, .int 7)] [] ((s_M0.set 133 (13, ((List.replicate 50 (Value.int 0)).set 0 (Value.int a)))).set 132 (2, ([Value.int 0, Value.int 0, Value.ref 133, Value.ref 134].set 0 (Value.int 1)))) _
      refine s_ek_bk 2 (P := 2) (ls' := [(0, .int a), (1, .int 0), (2, .int 7)]) (st' := [.int 0, .int a]) (M' := ((s_M0.set 133 (13, ((List.replicate 50 (Value.int 0)).set 0 (Value.int a)))).set 132 (2, ([Value.int 0, Value.int 0, Value.ref 133, Value.ref 134].set 0 (Value.int 1))))) rfl ?_
      refine s_ek_if2 (T := 14) rfl rfl (fun h3 => ?_) (fun h3 => ?_)
      · replace h3 : a.toInt < 0 := h3
        omega
      · replace h3 : ¬ (a.toInt < 0) := h3
        replace h3 : 0 ≤ a.toInt := by omega
        refine s_ek_bk 2 (P := 7) (ls' := [(0, .int a), (1, .int 0), (2, .int 7)]) (st' := [.int 7, .int a]) (M' := ((s_M0.set 133 (13, ((List.replicate 50 (Value.int 0)).set 0 (Value.int a)))).set 132 (2, ([Value.int 0, Value.int 0, Value.ref 133, Value.ref 134].set 0 (Value.int 1))))) rfl ?_
        refine s_ek_if2 (T := 14) rfl rfl (fun h4 => ?_) (fun h4 => ?_)
        · replace h4 : 7 < a.toInt := h4
          omega
        · replace h4 : ¬ (7 < a.toInt) := h4
          replace h4 : a.toInt ≤ 7 := by omega
          refine s_ek_bk 2 (P := 15) (ls' := [(0, .int a), (1, .int 0), (2, .int 7)]) (st' := [.int 1]) (M' := ((s_M0.set 133 (13, ((List.replicate 50 (Value.int 0)).set 0 (Value.int a)))).set 132 (2, ([Value.int 0, Value.int 0, Value.ref 133, Value.ref 134].set 0 (Value.int 1))))) rfl ?_
          refine s_ek_ret (o := some (.int 1)) (fun _ => rfl) ?_
          show s_Ek (s_rows 3 L xs) 1299 s_e265.1 7 [(0, .ref 151), (1, .int a)] [.int 1] ((s_M0.set 133 (13, ((List.replicate 50 (Value.int 0)).set 0 (Value.int a)))).set 132 (2, ([Value.int 0, Value.int 0, Value.ref 133, Value.ref 134].set 0 (Value.int 1)))) _
          refine s_ek_bk 11 (P := 34) (ls' := [(0, .ref 151), (1, .int a)]) (st' := []) (M' := (((s_M0.set 133 (13, ((List.replicate 50 (Value.int 0)).set 0 (Value.int a)))).set 132 (2, ([Value.int 0, Value.int 0, Value.ref 133, Value.ref 134].set 0 (Value.int 1)))).set 179 (13, ((List.replicate 50 (Value.int 0)).set 0 (Value.int a))))) rfl ?_
          refine s_ek_bk 6 (P := 44) (ls' := [(0, .ref 151), (1, .int a)]) (st' := []) (M' := ((((s_M0.set 133 (13, ((List.replicate 50 (Value.int 0)).set 0 (Value.int a)))).set 132 (2, ([Value.int 0, Value.int 0, Value.ref 133, Value.ref 134].set 0 (Value.int 1)))).set 179 (13, ((List.replicate 50 (Value.int 0)).set 0 (Value.int a)))).set 151 (11, ([Value.int 0, Value.ref 152, Value.int 0, Value.int 0, Value.int 0, Value.int 0, Value.int 0, Value.ref 153, Value.ref 154, Value.ref 155, Value.ref 156, Value.ref 157, Value.ref 158, Value.ref 159, Value.int 0, Value.ref 160, Value.ref 161, Value.ref 162, Value.int 0, Value.int 99, Value.ref 163, Value.ref 164, Value.ref 165, Value.int 0, Value.int 0, Value.ref 166, Value.ref 167, Value.ref 168, Value.ref 169, Value.ref 170, Value.int 0, Value.int 0, Value.ref 171, Value.ref 172, Value.ref 173, Value.int 0, Value.int 0, Value.ref 174, Value.ref 175, Value.ref 176, Value.ref 177, Value.ref 178, Value.int 0, Value.ref 179, Value.int 0, Value.ref 180, Value.ref 181, Value.ref 182, Value.ref 183, Value.ref 184].set 42 (Value.int 1))))) rfl ?_
          refine s_ek_bk 4 (P := 50) (ls' := [(0, .ref 151), (1, .int a)]) (st' := [.int 0]) (M' := ((((s_M0.set 133 (13, ((List.replicate 50 (Value.int 0)).set 0 (Value.int a)))).set 132 (2, ([Value.int 0, Value.int 0, Value.ref 133, Value.ref 134].set 0 (Value.int 1)))).set 179 (13, ((List.replicate 50 (Value.int 0)).set 0 (Value.int a)))).set 151 (11, ([Value.int 0, Value.ref 152, Value.int 0, Value.int 0, Value.int 0, Value.int 0, Value.int 0, Value.ref 153, Value.ref 154, Value.ref 155, Value.ref 156, Value.ref 157, Value.ref 158, Value.ref 159, Value.int 0, Value.ref 160, Value.ref 161, Value.ref 162, Value.int 0, Value.int 99, Value.ref 163, Value.ref 164, Value.ref 165, Value.int 0, Value.int 0, Value.ref 166, Value.ref 167, Value.ref 168, Value.ref 169, Value.ref 170, Value.int 0, Value.int 0, Value.ref 171, Value.ref 172, Value.ref 173, Value.int 0, Value.int 0, Value.ref 174, Value.ref 175, Value.ref 176, Value.ref 177, Value.ref 178, Value.int 0, Value.ref 179, Value.int 0, Value.ref 180, Value.ref 181, Value.ref 182, Value.ref 183, Value.ref 184].set 42 (Value.int 1))))) rfl ?_
          refine s_ek_ret (o := some (.int 0)) (fun _ => rfl) ?_
          exact rfl
set_option maxHeartbeats 20000000 in
set_option maxRecDepth 100000 in
theorem s_op_act (L : Nat) (xs : Nat → Int32) (a : Int32) (b : Int32) (c : Int32) : s_Ek (s_rows 3 L xs) 1299 s_e160.1 0 (lv_args 0 [.ref 0, .int a, .int b, .int c]) [] s_M0 (fun v M1 => ∃ r : Int32, v = some (.int r) ∧ s_Ek (s_rows 3 L xs) 1299 s_e278.1 0 (lv_args 0 [.ref 151, .int a, .int b, .int c]) [] M1 (fun w _ => w = some (.int r))) := by
  show s_Ek (s_rows 3 L xs) 1299 s_e160.1 0 [(0, .ref 0), (1, .int a), (2, .int b), (3, .int c)] [] s_M0 _
  refine s_ek_bk 5 (P := 7) (ls' := [(0, .ref 0), (1, .int a), (2, .int b), (3, .int c)]) (st' := [.int c, .int b, .int a, .ref 132]) (M' := s_M0) rfl ?_
  refine s_ek_call (ν := s_e32.1) (P := 10) (as := [.ref 132, .int a, .int b, .int c]) (r := []) (fun _ => rfl) rfl ?_
  show s_Ek (s_rows 3 L xs) 1298 s_e32.1 0 [(0, .ref 132), (1, .int a), (2, .int b), (3, .int c)] [] s_M0 _
  refine s_ek_bk 3 (P := 5) (ls' := [(0, .ref 132), (1, .int a), (2, .int b), (3, .int c)]) (st' := []) (M' := s_M0) rfl ?_
  refine s_ek_bk 2 (P := 7) (ls' := [(0, .ref 132), (1, .int a), (2, .int b), (3, .int c)]) (st' := [.int a, .ref 132]) (M' := s_M0) rfl ?_
  refine s_ek_call (ν := s_e29.1) (P := 10) (as := [.ref 132, .int a]) (r := []) (fun _ => rfl) rfl ?_
  show s_Ek (s_rows 3 L xs) 1297 s_e29.1 0 [(0, .ref 132), (1, .int a)] [] s_M0 _
  refine s_ek_bk 1 (P := 1) (ls' := [(0, .ref 132), (1, .int a)]) (st' := [.int a]) (M' := s_M0) rfl ?_
  refine s_ek_if1 (T := 16) rfl rfl (fun h1 => ?_) (fun h1 => ?_)
  · replace h1 : a.toInt < 0 := h1
    refine s_ek_bk 1 (P := 17) (ls' := [(0, .ref 132), (1, .int a)]) (st' := [.int 0]) (M' := s_M0) rfl ?_
    refine s_ek_ret (o := some (.int 0)) (fun _ => rfl) ?_
    show s_Ek (s_rows 3 L xs) 1298 s_e32.1 10 [(0, .ref 132), (1, .int a), (2, .int b), (3, .int c)] [.int 0] s_M0 _
    refine s_ek_bk 2 (P := 23) (ls' := [(0, .ref 132), (1, .int a), (2, .int b), (3, .int c)]) (st' := [.int 0]) (M' := s_M0) rfl ?_
    refine s_ek_ret (o := some (.int 0)) (fun _ => rfl) ?_
    show s_Ek (s_rows 3 L xs) 1299 s_e160.1 10 [(0, .ref 0), (1, .int a), (2, .int b), (3, .int c)] [.int 0] s_M0 _
    refine s_ek_ret (o := some (.int 0)) (fun _ => rfl) ?_
    refine ⟨0, rfl, ?_⟩
    show s_Ek (s_rows 3 L xs) 1299 s_e278.1 0 [(0, .ref 151), (1, .int a), (2, .int b), (3, .int c)] [] s_M0 _
    refine s_ek_bk 3 (P := 5) (ls' := [(0, .ref 151), (1, .int a), (2, .int b), (3, .int c)]) (st' := []) (M' := s_M0) rfl ?_
    refine s_ek_bk 2 (P := 7) (ls' := [(0, .ref 151), (1, .int a), (2, .int b), (3, .int c)]) (st' := [.int a, .ref 151]) (M' := s_M0) rfl ?_
    refine s_ek_call (ν := s_e262.1) (P := 10) (as := [.ref 151, .int a]) (r := []) (fun _ => rfl) rfl ?_
    show s_Ek (s_rows 3 L xs) 1298 s_e262.1 0 [(0, .ref 151), (1, .int a)] [] s_M0 _
    refine s_ek_bk 6 (P := 8) (ls' := [(0, .ref 151), (1, .int a)]) (st' := [.int (-1), .int 0, .int a]) (M' := s_M0) rfl ?_
    refine s_ek_call (ν := s_e181.1) (P := 11) (as := [.int a, .int 0, .int (-1)]) (r := []) (fun _ => rfl) rfl ?_
    show s_Ek (s_rows 3 L xs) 1297 s_e181.1 0 [(0, .int a), (1, .int 0), (2, .int (-1))] [] s_M0 _
    refine s_ek_bk 2 (P := 2) (ls' := [(0, .int a), (1, .int 0), (2, .int (-1))]) (st' := [.int 0, .int a]) (M' := s_M0) rfl ?_
    refine s_ek_if2 (T := 14) rfl rfl (fun h2 => ?_) (fun h2 => ?_)
    · replace h2 : a.toInt < 0 := h2
      refine s_ek_bk 1 (P := 15) (ls' := [(0, .int a), (1, .int 0), (2, .int (-1))]) (st' := [.int 0]) (M' := s_M0) rfl ?_
      refine s_ek_ret (o := some (.int 0)) (fun _ => rfl) ?_
      show s_Ek (s_rows 3 L xs) 1298 s_e262.1 11 [(0, .ref 151), (1, .int a)] [.int 0] s_M0 _
      refine s_ek_ret (o := some (.int 0)) (fun _ => rfl) ?_
      show s_Ek (s_rows 3 L xs) 1299 s_e278.1 10 [(0, .ref 151), (1, .int a), (2, .int b), (3, .int c)] [.int 0] s_M0 _
      refine s_ek_bk 2 (P := 23) (ls' := [(0, .ref 151), (1, .int a), (2, .int b), (3, .int c)]) (st' := [.int 0]) (M' := s_M0) rfl ?_
      refine s_ek_ret (o := some (.int 0)) (fun _ => rfl) ?_
      exact rfl
    · replace h2 : ¬ (a.toInt < 0) := h2
      replace h2 : 0 ≤ a.toInt := by omega
      omega
  · replace h1 : ¬ (a.toInt < 0) := h1
    replace h1 : 0 ≤ a.toInt := by omega
    refine s_ek_bk 3 (P := 9) (ls' := [(0, .ref 132), (1, .int a)]) (st' := [.int 0, .int a]) (M' := s_M0) rfl ?_
    refine s_ek_if2 (T := 16) rfl rfl (fun h2 => ?_) (fun h2 => ?_)
    · replace h2 : 0 ≤ a.toInt := h2
      refine s_ek_bk 1 (P := 17) (ls' := [(0, .ref 132), (1, .int a)]) (st' := [.int 0]) (M' := s_M0) rfl ?_
      refine s_ek_ret (o := some (.int 0)) (fun _ => rfl) ?_
      show s_Ek (s_rows 3 L xs) 1298 s_e32.1 10 [(0, .ref 132), (1, .int a), (2, .int b), (3, .int c)] [.int 0] s_M0 _
      refine s_ek_bk 2 (P := 23) (ls' := [(0, .ref 132), (1, .int a), (2, .int b), (3, .int c)]) (st' := [.int 0]) (M' := s_M0) rfl ?_
      refine s_ek_ret (o := some (.int 0)) (fun _ => rfl) ?_
      show s_Ek (s_rows 3 L xs) 1299 s_e160.1 10 [(0, .ref 0), (1, .int a), (2, .int b), (3, .int c)] [.int 0] s_M0 _
      refine s_ek_ret (o := some (.int 0)) (fun _ => rfl) ?_
      refine ⟨0, rfl, ?_⟩
      show s_Ek (s_rows 3 L xs) 1299 s_e278.1 0 [(0, .ref 151), (1, .int a), (2, .int b), (3, .int c)] [] s_M0 _
      refine s_ek_bk 3 (P := 5) (ls' := [(0, .ref 151), (1, .int a), (2, .int b), (3, .int c)]) (st' := []) (M' := s_M0) rfl ?_
      refine s_ek_bk 2 (P := 7) (ls' := [(0, .ref 151), (1, .int a), (2, .int b), (3, .int c)]) (st' := [.int a, .ref 151]) (M' := s_M0) rfl ?_
      refine s_ek_call (ν := s_e262.1) (P := 10) (as := [.ref 151, .int a]) (r := []) (fun _ => rfl) rfl ?_
      show s_Ek (s_rows 3 L xs) 1298 s_e262.1 0 [(0, .ref 151), (1, .int a)] [] s_M0 _
      refine s_ek_bk 6 (P := 8) (ls' := [(0, .ref 151), (1, .int a)]) (st' := [.int (-1), .int 0, .int a]) (M' := s_M0) rfl ?_
      refine s_ek_call (ν := s_e181.1) (P := 11) (as := [.int a, .int 0, .int (-1)]) (r := []) (fun _ => rfl) rfl ?_
      show s_Ek (s_rows 3 L xs) 1297 s_e181.1 0 [(0, .int a), (1, .int 0), (2, .int (-1))] [] s_M0 _
      refine s_ek_bk 2 (P := 2) (ls' := [(0, .int a), (1, .int 0), (2, .int (-1))]) (st' := [.int 0, .int a]) (M' := s_M0) rfl ?_
      refine s_ek_if2 (T := 14) rfl rfl (fun h3 => ?_) (fun h3 => ?_)
      · replace h3 : a.toInt < 0 := h3
        omega
      · replace h3 : ¬ (a.toInt < 0) := h3
        replace h3 : 0 ≤ a.toInt := by omega
        refine s_ek_bk 2 (P := 7) (ls' := [(0, .int a), (1, .int 0), (2, .int (-1))]) (st' := [.int (-1), .int a]) (M' := s_M0) rfl ?_
        refine s_ek_if2 (T := 14) rfl rfl (fun h4 => ?_) (fun h4 => ?_)
        · replace h4 : (-1) < a.toInt := h4
          refine s_ek_bk 1 (P := 15) (ls' := [(0, .int a), (1, .int 0), (2, .int (-1))]) (st' := [.int 0]) (M' := s_M0) rfl ?_
          refine s_ek_ret (o := some (.int 0)) (fun _ => rfl) ?_
          show s_Ek (s_rows 3 L xs) 1298 s_e262.1 11 [(0, .ref 151), (1, .int a)] [.int 0] s_M0 _
          refine s_ek_ret (o := some (.int 0)) (fun _ => rfl) ?_
          show s_Ek (s_rows 3 L xs) 1299 s_e278.1 10 [(0, .ref 151), (1, .int a), (2, .int b), (3, .int c)] [.int 0] s_M0 _
          refine s_ek_bk 2 (P := 23) (ls' := [(0, .ref 151), (1, .int a), (2, .int b), (3, .int c)]) (st' := [.int 0]) (M' := s_M0) rfl ?_
          refine s_ek_ret (o := some (.int 0)) (fun _ => rfl) ?_
          exact rfl
        · replace h4 : ¬ ((-1) < a.toInt) := h4
          replace h4 : a.toInt ≤ (-1) := by omega
          omega
    · replace h2 : ¬ (0 ≤ a.toInt) := h2
      replace h2 : a.toInt < 0 := by omega
      omega
set_option maxHeartbeats 20000000 in
set_option maxRecDepth 100000 in
theorem s_op_trace (L : Nat) (xs : Nat → Int32) (a : Int32) : s_Ek (s_rows 3 L xs) 1299 s_e161.1 0 (lv_args 0 [.ref 0, .int a]) [] s_M0 (fun v M1 => ∃ r : Int32, v = some (.int r) ∧ s_Ek (s_rows 3 L xs) 1299 s_e264.1 0 (lv_args 0 [.ref 151, .int a]) [] M1 (fun w _ => w = some (.int r))) := by
  show s_Ek (s_rows 3 L xs) 1299 s_e161.1 0 [(0, .ref 0), (1, .int a)] [] s_M0 _
  refine s_ek_bk 3 (P := 5) (ls' := [(0, .ref 0), (1, .int a)]) (st' := [.int a, .ref 132]) (M' := s_M0) rfl ?_
  refine s_ek_call (ν := s_e31.1) (P := 8) (as := [.ref 132, .int a]) (r := []) (fun _ => rfl) rfl ?_
  show s_Ek (s_rows 3 L xs) 1298 s_e31.1 0 [(0, .ref 132), (1, .int a)] [] s_M0 _
  refine s_ek_bk 1 (P := 1) (ls' := [(0, .ref 132), (1, .int a)]) (st' := [.int a]) (M' := s_M0) rfl ?_
  refine s_ek_if1 (T := 30) rfl rfl (fun h1 => ?_) (fun h1 => ?_)
  · replace h1 : a.toInt < 0 := h1
    refine s_ek_bk 1 (P := 31) (ls' := [(0, .ref 132), (1, .int a)]) (st' := [.int (-1)]) (M' := s_M0) rfl ?_
    refine s_ek_ret (o := some (.int (-1))) (fun _ => rfl) ?_
    show s_Ek (s_rows 3 L xs) 1299 s_e161.1 8 [(0, .ref 0), (1, .int a)] [.int (-1)] s_M0 _
    refine s_ek_ret (o := some (.int (-1))) (fun _ => rfl) ?_
    refine ⟨(-1), rfl, ?_⟩
    show s_Ek (s_rows 3 L xs) 1299 s_e264.1 0 [(0, .ref 151), (1, .int a)] [] s_M0 _
    refine s_ek_bk 1 (P := 1) (ls' := [(0, .ref 151), (1, .int a)]) (st' := [.int a]) (M' := s_M0) rfl ?_
    refine s_ek_if1 (T := 27) rfl rfl (fun h2 => ?_) (fun h2 => ?_)
    · replace h2 : a.toInt < 0 := h2
      refine s_ek_bk 1 (P := 28) (ls' := [(0, .ref 151), (1, .int a)]) (st' := [.int (-1)]) (M' := s_M0) rfl ?_
      refine s_ek_ret (o := some (.int (-1))) (fun _ => rfl) ?_
      exact rfl
    · replace h2 : ¬ (a.toInt < 0) := h2
      replace h2 : 0 ≤ a.toInt := by omega
      omega
  · replace h1 : ¬ (a.toInt < 0) := h1
    replace h1 : 0 ≤ a.toInt := by omega
    refine s_ek_bk 3 (P := 9) (ls' := [(0, .ref 132), (1, .int a)]) (st' := [.int 0, .int a]) (M' := s_M0) rfl ?_
    refine s_ek_if2 (T := 30) rfl rfl (fun h2 => ?_) (fun h2 => ?_)
    · replace h2 : 0 ≤ a.toInt := h2
      refine s_ek_bk 1 (P := 31) (ls' := [(0, .ref 132), (1, .int a)]) (st' := [.int (-1)]) (M' := s_M0) rfl ?_
      refine s_ek_ret (o := some (.int (-1))) (fun _ => rfl) ?_
      show s_Ek (s_rows 3 L xs) 1299 s_e161.1 8 [(0, .ref 0), (1, .int a)] [.int (-1)] s_M0 _
      refine s_ek_ret (o := some (.int (-1))) (fun _ => rfl) ?_
      refine ⟨(-1), rfl, ?_⟩
      show s_Ek (s_rows 3 L xs) 1299 s_e264.1 0 [(0, .ref 151), (1, .int a)] [] s_M0 _
      refine s_ek_bk 1 (P := 1) (ls' := [(0, .ref 151), (1, .int a)]) (st' := [.int a]) (M' := s_M0) rfl ?_
      refine s_ek_if1 (T := 27) rfl rfl (fun h3 => ?_) (fun h3 => ?_)
      · replace h3 : a.toInt < 0 := h3
        omega
      · replace h3 : ¬ (a.toInt < 0) := h3
        replace h3 : 0 ≤ a.toInt := by omega
        refine s_ek_bk 3 (P := 9) (ls' := [(0, .ref 151), (1, .int a)]) (st' := [.int 0, .int a]) (M' := s_M0) rfl ?_
        refine s_ek_if2 (T := 27) rfl rfl (fun h4 => ?_) (fun h4 => ?_)
        · replace h4 : 0 ≤ a.toInt := h4
          refine s_ek_bk 1 (P := 28) (ls' := [(0, .ref 151), (1, .int a)]) (st' := [.int (-1)]) (M' := s_M0) rfl ?_
          refine s_ek_ret (o := some (.int (-1))) (fun _ => rfl) ?_
          exact rfl
        · replace h4 : ¬ (0 ≤ a.toInt) := h4
          replace h4 : a.toInt < 0 := by omega
          omega
    · replace h2 : ¬ (0 ≤ a.toInt) := h2
      replace h2 : a.toInt < 0 := by omega
      omega
end
