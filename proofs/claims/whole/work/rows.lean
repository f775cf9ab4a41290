section
-- ===== PART A: goes FIRST, ahead of the names: the tables' words, and 'selects' of the private methods out of them =====
/-- a private method of a class that the tables say can be made, by its rows of tables_1 -/
def lw_okq (q : MethodName × Nat) : Prop := (q.1.cls ≠ "java/lang/invoke/MethodHandle" ∧ q.1.cls ≠ "java/lang/invoke/VarHandle") ∧ Cond.instantiable q.1.cls q.2 ∈ tables_1 ∧ Cond.privateMethod q.1 ∈ tables_1 ∧ Cond.instanceMethod q.1 ∈ tables_1
theorem lw_p0 : lw_okq (⟨"LeafFalls$Text", "step", "()V"⟩, 6) := ⟨⟨by decide +kernel, by decide +kernel⟩, List.mem_of_getElem? (i := 87) (by decide +kernel), List.mem_of_getElem? (i := 235) (by decide +kernel), List.mem_of_getElem? (i := 236) (by decide +kernel)⟩
theorem lw_p1 : lw_okq (⟨"LeafFalls$Text", "sortAt", "(I)I"⟩, 6) := ⟨⟨by decide +kernel, by decide +kernel⟩, List.mem_of_getElem? (i := 87) (by decide +kernel), List.mem_of_getElem? (i := 239) (by decide +kernel), List.mem_of_getElem? (i := 240) (by decide +kernel)⟩
theorem lw_p2 : lw_okq (⟨"LeafFalls$Text", "lawNamed", "()I"⟩, 6) := ⟨⟨by decide +kernel, by decide +kernel⟩, List.mem_of_getElem? (i := 87) (by decide +kernel), List.mem_of_getElem? (i := 243) (by decide +kernel), List.mem_of_getElem? (i := 244) (by decide +kernel)⟩
theorem lw_p3 : lw_okq (⟨"LeafFalls$Text", "isName", "(Ljava/lang/String;)Z"⟩, 6) := ⟨⟨by decide +kernel, by decide +kernel⟩, List.mem_of_getElem? (i := 87) (by decide +kernel), List.mem_of_getElem? (i := 248) (by decide +kernel), List.mem_of_getElem? (i := 249) (by decide +kernel)⟩
theorem lw_p4 : lw_okq (⟨"LeafFalls$Text", "kindNamed", "()I"⟩, 6) := ⟨⟨by decide +kernel, by decide +kernel⟩, List.mem_of_getElem? (i := 87) (by decide +kernel), List.mem_of_getElem? (i := 303) (by decide +kernel), List.mem_of_getElem? (i := 304) (by decide +kernel)⟩
theorem lw_p5 : lw_okq (⟨"LeafFalls$Text", "readLaw", "(LLeafFalls$Tree;I)V"⟩, 6) := ⟨⟨by decide +kernel, by decide +kernel⟩, List.mem_of_getElem? (i := 87) (by decide +kernel), List.mem_of_getElem? (i := 316) (by decide +kernel), List.mem_of_getElem? (i := 317) (by decide +kernel)⟩
theorem lw_p6 : lw_okq (⟨"LeafFalls$Text", "number", "(I)I"⟩, 6) := ⟨⟨by decide +kernel, by decide +kernel⟩, List.mem_of_getElem? (i := 87) (by decide +kernel), List.mem_of_getElem? (i := 323) (by decide +kernel), List.mem_of_getElem? (i := 324) (by decide +kernel)⟩
theorem lw_p7 : lw_okq (⟨"LeafFalls$Text", "value", "()I"⟩, 6) := ⟨⟨by decide +kernel, by decide +kernel⟩, List.mem_of_getElem? (i := 87) (by decide +kernel), List.mem_of_getElem? (i := 327) (by decide +kernel), List.mem_of_getElem? (i := 328) (by decide +kernel)⟩
theorem lw_p8 : lw_okq (⟨"LeafFalls$Text", "passSemicolon", "()Z"⟩, 6) := ⟨⟨by decide +kernel, by decide +kernel⟩, List.mem_of_getElem? (i := 87) (by decide +kernel), List.mem_of_getElem? (i := 331) (by decide +kernel), List.mem_of_getElem? (i := 332) (by decide +kernel)⟩
theorem lw_p9 : lw_okq (⟨"LeafFalls$Text", "readSway", "(LLeafFalls$Tree;)V"⟩, 6) := ⟨⟨by decide +kernel, by decide +kernel⟩, List.mem_of_getElem? (i := 87) (by decide +kernel), List.mem_of_getElem? (i := 336) (by decide +kernel), List.mem_of_getElem? (i := 337) (by decide +kernel)⟩
theorem lw_p10 : lw_okq (⟨"LeafFalls$Text", "passName", "(Ljava/lang/String;)Z"⟩, 6) := ⟨⟨by decide +kernel, by decide +kernel⟩, List.mem_of_getElem? (i := 87) (by decide +kernel), List.mem_of_getElem? (i := 341) (by decide +kernel), List.mem_of_getElem? (i := 342) (by decide +kernel)⟩
theorem lw_p11 : lw_okq (⟨"LeafFalls$Text", "readLeaf", "(LLeafFalls$Tree;I)V"⟩, 6) := ⟨⟨by decide +kernel, by decide +kernel⟩, List.mem_of_getElem? (i := 87) (by decide +kernel), List.mem_of_getElem? (i := 345) (by decide +kernel), List.mem_of_getElem? (i := 346) (by decide +kernel)⟩
theorem lw_p12 : lw_okq (⟨"LeafFalls$Text", "numberNamed", "(Ljava/lang/String;II)I"⟩, 6) := ⟨⟨by decide +kernel, by decide +kernel⟩, List.mem_of_getElem? (i := 87) (by decide +kernel), List.mem_of_getElem? (i := 351) (by decide +kernel), List.mem_of_getElem? (i := 352) (by decide +kernel)⟩
theorem lw_p13 : lw_okq (⟨"LeafFalls$Tree", "isTied", "(I)Z"⟩, 12) := ⟨⟨by decide +kernel, by decide +kernel⟩, List.mem_of_getElem? (i := 24) (by decide +kernel), List.mem_of_getElem? (i := 462) (by decide +kernel), List.mem_of_getElem? (i := 463) (by decide +kernel)⟩
theorem lw_p14 : lw_okq (⟨"LeafFalls$Tree", "faller", "()I"⟩, 12) := ⟨⟨by decide +kernel, by decide +kernel⟩, List.mem_of_getElem? (i := 24) (by decide +kernel), List.mem_of_getElem? (i := 476) (by decide +kernel), List.mem_of_getElem? (i := 477) (by decide +kernel)⟩
theorem lw_p15 : lw_okq (⟨"LeafFalls$Tree", "drawn", "()I"⟩, 12) := ⟨⟨by decide +kernel, by decide +kernel⟩, List.mem_of_getElem? (i := 24) (by decide +kernel), List.mem_of_getElem? (i := 494) (by decide +kernel), List.mem_of_getElem? (i := 495) (by decide +kernel)⟩
def lw_privs_1 : List (MethodName × Nat) := [(⟨"LeafFalls$Text", "step", "()V"⟩, 6), (⟨"LeafFalls$Text", "sortAt", "(I)I"⟩, 6), (⟨"LeafFalls$Text", "lawNamed", "()I"⟩, 6), (⟨"LeafFalls$Text", "isName", "(Ljava/lang/String;)Z"⟩, 6), (⟨"LeafFalls$Text", "kindNamed", "()I"⟩, 6), (⟨"LeafFalls$Text", "readLaw", "(LLeafFalls$Tree;I)V"⟩, 6), (⟨"LeafFalls$Text", "number", "(I)I"⟩, 6), (⟨"LeafFalls$Text", "value", "()I"⟩, 6), (⟨"LeafFalls$Text", "passSemicolon", "()Z"⟩, 6), (⟨"LeafFalls$Text", "readSway", "(LLeafFalls$Tree;)V"⟩, 6), (⟨"LeafFalls$Text", "passName", "(Ljava/lang/String;)Z"⟩, 6), (⟨"LeafFalls$Text", "readLeaf", "(LLeafFalls$Tree;I)V"⟩, 6), (⟨"LeafFalls$Text", "numberNamed", "(Ljava/lang/String;II)I"⟩, 6), (⟨"LeafFalls$Tree", "isTied", "(I)Z"⟩, 12), (⟨"LeafFalls$Tree", "faller", "()I"⟩, 12), (⟨"LeafFalls$Tree", "drawn", "()I"⟩, 12)]
theorem lw_r1 : ∀ q ∈ lw_privs_1, lw_okq q := List.forall_mem_cons.mpr ⟨lw_p0, List.forall_mem_cons.mpr ⟨lw_p1, List.forall_mem_cons.mpr ⟨lw_p2, List.forall_mem_cons.mpr ⟨lw_p3, List.forall_mem_cons.mpr ⟨lw_p4, List.forall_mem_cons.mpr ⟨lw_p5, List.forall_mem_cons.mpr ⟨lw_p6, List.forall_mem_cons.mpr ⟨lw_p7, List.forall_mem_cons.mpr ⟨lw_p8, List.forall_mem_cons.mpr ⟨lw_p9, List.forall_mem_cons.mpr ⟨lw_p10, List.forall_mem_cons.mpr ⟨lw_p11, List.forall_mem_cons.mpr ⟨lw_p12, List.forall_mem_cons.mpr ⟨lw_p13, List.forall_mem_cons.mpr ⟨lw_p14, List.forall_mem_cons.mpr ⟨lw_p15, fun _ h => absurd h List.not_mem_nil⟩⟩⟩⟩⟩⟩⟩⟩⟩⟩⟩⟩⟩⟩⟩⟩
theorem lw_p16 : lw_okq (⟨"LeafFalls", "daysToFall", "(I)I"⟩, 10) := ⟨⟨by decide +kernel, by decide +kernel⟩, List.mem_of_getElem? (i := 16) (by decide +kernel), List.mem_of_getElem? (i := 541) (by decide +kernel), List.mem_of_getElem? (i := 542) (by decide +kernel)⟩
theorem lw_p17 : lw_okq (⟨"LeafFalls", "hangsBehind", "(II)Z"⟩, 10) := ⟨⟨by decide +kernel, by decide +kernel⟩, List.mem_of_getElem? (i := 16) (by decide +kernel), List.mem_of_getElem? (i := 569) (by decide +kernel), List.mem_of_getElem? (i := 570) (by decide +kernel)⟩
theorem lw_p18 : lw_okq (⟨"LeafFalls", "fitsWithHold", "(LLeafFalls$Sheet;II)Z"⟩, 10) := ⟨⟨by decide +kernel, by decide +kernel⟩, List.mem_of_getElem? (i := 16) (by decide +kernel), List.mem_of_getElem? (i := 586) (by decide +kernel), List.mem_of_getElem? (i := 587) (by decide +kernel)⟩
theorem lw_p19 : lw_okq (⟨"LeafFalls", "rowPartTried", "(II)I"⟩, 10) := ⟨⟨by decide +kernel, by decide +kernel⟩, List.mem_of_getElem? (i := 16) (by decide +kernel), List.mem_of_getElem? (i := 610) (by decide +kernel), List.mem_of_getElem? (i := 611) (by decide +kernel)⟩
theorem lw_p20 : lw_okq (⟨"LeafFalls", "isRowPart", "(II)Z"⟩, 10) := ⟨⟨by decide +kernel, by decide +kernel⟩, List.mem_of_getElem? (i := 16) (by decide +kernel), List.mem_of_getElem? (i := 618) (by decide +kernel), List.mem_of_getElem? (i := 619) (by decide +kernel)⟩
theorem lw_p21 : lw_okq (⟨"LeafFalls", "isNothing", "(LLeafFalls$Shelf;)Z"⟩, 10) := ⟨⟨by decide +kernel, by decide +kernel⟩, List.mem_of_getElem? (i := 16) (by decide +kernel), List.mem_of_getElem? (i := 672) (by decide +kernel), List.mem_of_getElem? (i := 673) (by decide +kernel)⟩
theorem lw_p22 : lw_okq (⟨"LeafFalls$Acts", "turns", "(I)I"⟩, 6) := ⟨⟨by decide +kernel, by decide +kernel⟩, List.mem_of_getElem? (i := 119) (by decide +kernel), List.mem_of_getElem? (i := 687) (by decide +kernel), List.mem_of_getElem? (i := 688) (by decide +kernel)⟩
theorem lw_p23 : lw_okq (⟨"LeafFalls$Acts", "began", "(IZ)V"⟩, 6) := ⟨⟨by decide +kernel, by decide +kernel⟩, List.mem_of_getElem? (i := 119) (by decide +kernel), List.mem_of_getElem? (i := 691) (by decide +kernel), List.mem_of_getElem? (i := 692) (by decide +kernel)⟩
theorem lw_p24 : lw_okq (⟨"LeafFalls$Acts", "names", "(I)I"⟩, 6) := ⟨⟨by decide +kernel, by decide +kernel⟩, List.mem_of_getElem? (i := 119) (by decide +kernel), List.mem_of_getElem? (i := 696) (by decide +kernel), List.mem_of_getElem? (i := 697) (by decide +kernel)⟩
theorem lw_p25 : lw_okq (⟨"LeafFalls$Acts", "parts", "(I)I"⟩, 6) := ⟨⟨by decide +kernel, by decide +kernel⟩, List.mem_of_getElem? (i := 119) (by decide +kernel), List.mem_of_getElem? (i := 700) (by decide +kernel), List.mem_of_getElem? (i := 701) (by decide +kernel)⟩
theorem lw_p26 : lw_okq (⟨"LeafFalls$Acts", "lands", "(I)I"⟩, 6) := ⟨⟨by decide +kernel, by decide +kernel⟩, List.mem_of_getElem? (i := 119) (by decide +kernel), List.mem_of_getElem? (i := 704) (by decide +kernel), List.mem_of_getElem? (i := 705) (by decide +kernel)⟩
theorem lw_p27 : lw_okq (⟨"LeafFallsModel", "begins", "()V"⟩, 27) := ⟨⟨by decide +kernel, by decide +kernel⟩, List.mem_of_getElem? (i := 728) (by decide +kernel), List.mem_of_getElem? (i := 734) (by decide +kernel), List.mem_of_getElem? (i := 735) (by decide +kernel)⟩
theorem lw_p28 : lw_okq (⟨"LeafFallsModel", "nextToken", "()V"⟩, 27) := ⟨⟨by decide +kernel, by decide +kernel⟩, List.mem_of_getElem? (i := 728) (by decide +kernel), List.mem_of_getElem? (i := 836) (by decide +kernel), List.mem_of_getElem? (i := 837) (by decide +kernel)⟩
theorem lw_p29 : lw_okq (⟨"LeafFallsModel", "byteAt", "(I)I"⟩, 27) := ⟨⟨by decide +kernel, by decide +kernel⟩, List.mem_of_getElem? (i := 728) (by decide +kernel), List.mem_of_getElem? (i := 840) (by decide +kernel), List.mem_of_getElem? (i := 841) (by decide +kernel)⟩
theorem lw_p30 : lw_okq (⟨"LeafFallsModel", "itemHere", "()V"⟩, 27) := ⟨⟨by decide +kernel, by decide +kernel⟩, List.mem_of_getElem? (i := 728) (by decide +kernel), List.mem_of_getElem? (i := 850) (by decide +kernel), List.mem_of_getElem? (i := 851) (by decide +kernel)⟩
theorem lw_p31 : lw_okq (⟨"LeafFallsModel", "kindHere", "()I"⟩, 27) := ⟨⟨by decide +kernel, by decide +kernel⟩, List.mem_of_getElem? (i := 728) (by decide +kernel), List.mem_of_getElem? (i := 854) (by decide +kernel), List.mem_of_getElem? (i := 855) (by decide +kernel)⟩
def lw_privs_2 : List (MethodName × Nat) := [(⟨"LeafFalls", "daysToFall", "(I)I"⟩, 10), (⟨"LeafFalls", "hangsBehind", "(II)Z"⟩, 10), (⟨"LeafFalls", "fitsWithHold", "(LLeafFalls$Sheet;II)Z"⟩, 10), (⟨"LeafFalls", "rowPartTried", "(II)I"⟩, 10), (⟨"LeafFalls", "isRowPart", "(II)Z"⟩, 10), (⟨"LeafFalls", "isNothing", "(LLeafFalls$Shelf;)Z"⟩, 10), (⟨"LeafFalls$Acts", "turns", "(I)I"⟩, 6), (⟨"LeafFalls$Acts", "began", "(IZ)V"⟩, 6), (⟨"LeafFalls$Acts", "names", "(I)I"⟩, 6), (⟨"LeafFalls$Acts", "parts", "(I)I"⟩, 6), (⟨"LeafFalls$Acts", "lands", "(I)I"⟩, 6), (⟨"LeafFallsModel", "begins", "()V"⟩, 27), (⟨"LeafFallsModel", "nextToken", "()V"⟩, 27), (⟨"LeafFallsModel", "byteAt", "(I)I"⟩, 27), (⟨"LeafFallsModel", "itemHere", "()V"⟩, 27), (⟨"LeafFallsModel", "kindHere", "()I"⟩, 27)]
theorem lw_r2 : ∀ q ∈ lw_privs_2, lw_okq q := List.forall_mem_cons.mpr ⟨lw_p16, List.forall_mem_cons.mpr ⟨lw_p17, List.forall_mem_cons.mpr ⟨lw_p18, List.forall_mem_cons.mpr ⟨lw_p19, List.forall_mem_cons.mpr ⟨lw_p20, List.forall_mem_cons.mpr ⟨lw_p21, List.forall_mem_cons.mpr ⟨lw_p22, List.forall_mem_cons.mpr ⟨lw_p23, List.forall_mem_cons.mpr ⟨lw_p24, List.forall_mem_cons.mpr ⟨lw_p25, List.forall_mem_cons.mpr ⟨lw_p26, List.forall_mem_cons.mpr ⟨lw_p27, List.forall_mem_cons.mpr ⟨lw_p28, List.forall_mem_cons.mpr ⟨lw_p29, List.forall_mem_cons.mpr ⟨lw_p30, List.forall_mem_cons.mpr ⟨lw_p31, fun _ h => absurd h List.not_mem_nil⟩⟩⟩⟩⟩⟩⟩⟩⟩⟩⟩⟩⟩⟩⟩⟩
theorem lw_p32 : lw_okq (⟨"LeafFallsModel", "isFour", "(IIII)Z"⟩, 27) := ⟨⟨by decide +kernel, by decide +kernel⟩, List.mem_of_getElem? (i := 728) (by decide +kernel), List.mem_of_getElem? (i := 858) (by decide +kernel), List.mem_of_getElem? (i := 859) (by decide +kernel)⟩
theorem lw_p33 : lw_okq (⟨"LeafFallsModel", "isName", "(IIIII)Z"⟩, 27) := ⟨⟨by decide +kernel, by decide +kernel⟩, List.mem_of_getElem? (i := 728) (by decide +kernel), List.mem_of_getElem? (i := 862) (by decide +kernel), List.mem_of_getElem? (i := 863) (by decide +kernel)⟩
theorem lw_p34 : lw_okq (⟨"LeafFallsModel", "isSame", "(IIII)Z"⟩, 27) := ⟨⟨by decide +kernel, by decide +kernel⟩, List.mem_of_getElem? (i := 728) (by decide +kernel), List.mem_of_getElem? (i := 866) (by decide +kernel), List.mem_of_getElem? (i := 867) (by decide +kernel)⟩
theorem lw_p35 : lw_okq (⟨"LeafFallsModel", "lawHere", "()I"⟩, 27) := ⟨⟨by decide +kernel, by decide +kernel⟩, List.mem_of_getElem? (i := 728) (by decide +kernel), List.mem_of_getElem? (i := 870) (by decide +kernel), List.mem_of_getElem? (i := 871) (by decide +kernel)⟩
theorem lw_p36 : lw_okq (⟨"LeafFallsModel", "leafHere", "(I)V"⟩, 27) := ⟨⟨by decide +kernel, by decide +kernel⟩, List.mem_of_getElem? (i := 728) (by decide +kernel), List.mem_of_getElem? (i := 874) (by decide +kernel), List.mem_of_getElem? (i := 875) (by decide +kernel)⟩
theorem lw_p37 : lw_okq (⟨"LeafFallsModel", "needs", "(Z)V"⟩, 27) := ⟨⟨by decide +kernel, by decide +kernel⟩, List.mem_of_getElem? (i := 728) (by decide +kernel), List.mem_of_getElem? (i := 878) (by decide +kernel), List.mem_of_getElem? (i := 879) (by decide +kernel)⟩
theorem lw_p38 : lw_okq (⟨"LeafFallsModel", "isTwo", "(II)Z"⟩, 27) := ⟨⟨by decide +kernel, by decide +kernel⟩, List.mem_of_getElem? (i := 728) (by decide +kernel), List.mem_of_getElem? (i := 882) (by decide +kernel), List.mem_of_getElem? (i := 883) (by decide +kernel)⟩
theorem lw_p39 : lw_okq (⟨"LeafFallsModel", "numberTo", "(II)V"⟩, 27) := ⟨⟨by decide +kernel, by decide +kernel⟩, List.mem_of_getElem? (i := 728) (by decide +kernel), List.mem_of_getElem? (i := 886) (by decide +kernel), List.mem_of_getElem? (i := 887) (by decide +kernel)⟩
theorem lw_p40 : lw_okq (⟨"LeafFallsModel", "perhaps", "(ZII)V"⟩, 27) := ⟨⟨by decide +kernel, by decide +kernel⟩, List.mem_of_getElem? (i := 728) (by decide +kernel), List.mem_of_getElem? (i := 890) (by decide +kernel), List.mem_of_getElem? (i := 891) (by decide +kernel)⟩
theorem lw_p41 : lw_okq (⟨"LeafFallsModel", "swayHere", "()V"⟩, 27) := ⟨⟨by decide +kernel, by decide +kernel⟩, List.mem_of_getElem? (i := 728) (by decide +kernel), List.mem_of_getElem? (i := 894) (by decide +kernel), List.mem_of_getElem? (i := 895) (by decide +kernel)⟩
theorem lw_p42 : lw_okq (⟨"LeafFallsModel", "becomes", "(II)I"⟩, 27) := ⟨⟨by decide +kernel, by decide +kernel⟩, List.mem_of_getElem? (i := 728) (by decide +kernel), List.mem_of_getElem? (i := 905) (by decide +kernel), List.mem_of_getElem? (i := 906) (by decide +kernel)⟩
theorem lw_p43 : lw_okq (⟨"LeafFallsModel", "isOne", "(I)Z"⟩, 27) := ⟨⟨by decide +kernel, by decide +kernel⟩, List.mem_of_getElem? (i := 728) (by decide +kernel), List.mem_of_getElem? (i := 925) (by decide +kernel), List.mem_of_getElem? (i := 926) (by decide +kernel)⟩
theorem lw_p44 : lw_okq (⟨"LeafFallsModel", "mates", "(I)I"⟩, 27) := ⟨⟨by decide +kernel, by decide +kernel⟩, List.mem_of_getElem? (i := 728) (by decide +kernel), List.mem_of_getElem? (i := 930) (by decide +kernel), List.mem_of_getElem? (i := 931) (by decide +kernel)⟩
theorem lw_p45 : lw_okq (⟨"LeafFallsModel", "its", "(II)I"⟩, 27) := ⟨⟨by decide +kernel, by decide +kernel⟩, List.mem_of_getElem? (i := 728) (by decide +kernel), List.mem_of_getElem? (i := 934) (by decide +kernel), List.mem_of_getElem? (i := 935) (by decide +kernel)⟩
theorem lw_p46 : lw_okq (⟨"LeafFallsModel", "hangingOn", "(I)I"⟩, 27) := ⟨⟨by decide +kernel, by decide +kernel⟩, List.mem_of_getElem? (i := 728) (by decide +kernel), List.mem_of_getElem? (i := 938) (by decide +kernel), List.mem_of_getElem? (i := 939) (by decide +kernel)⟩
theorem lw_p47 : lw_okq (⟨"LeafFallsModel", "loses", "(I)I"⟩, 27) := ⟨⟨by decide +kernel, by decide +kernel⟩, List.mem_of_getElem? (i := 728) (by decide +kernel), List.mem_of_getElem? (i := 949) (by decide +kernel), List.mem_of_getElem? (i := 950) (by decide +kernel)⟩
def lw_privs_3 : List (MethodName × Nat) := [(⟨"LeafFallsModel", "isFour", "(IIII)Z"⟩, 27), (⟨"LeafFallsModel", "isName", "(IIIII)Z"⟩, 27), (⟨"LeafFallsModel", "isSame", "(IIII)Z"⟩, 27), (⟨"LeafFallsModel", "lawHere", "()I"⟩, 27), (⟨"LeafFallsModel", "leafHere", "(I)V"⟩, 27), (⟨"LeafFallsModel", "needs", "(Z)V"⟩, 27), (⟨"LeafFallsModel", "isTwo", "(II)Z"⟩, 27), (⟨"LeafFallsModel", "numberTo", "(II)V"⟩, 27), (⟨"LeafFallsModel", "perhaps", "(ZII)V"⟩, 27), (⟨"LeafFallsModel", "swayHere", "()V"⟩, 27), (⟨"LeafFallsModel", "becomes", "(II)I"⟩, 27), (⟨"LeafFallsModel", "isOne", "(I)Z"⟩, 27), (⟨"LeafFallsModel", "mates", "(I)I"⟩, 27), (⟨"LeafFallsModel", "its", "(II)I"⟩, 27), (⟨"LeafFallsModel", "hangingOn", "(I)I"⟩, 27), (⟨"LeafFallsModel", "loses", "(I)I"⟩, 27)]
theorem lw_r3 : ∀ q ∈ lw_privs_3, lw_okq q := List.forall_mem_cons.mpr ⟨lw_p32, List.forall_mem_cons.mpr ⟨lw_p33, List.forall_mem_cons.mpr ⟨lw_p34, List.forall_mem_cons.mpr ⟨lw_p35, List.forall_mem_cons.mpr ⟨lw_p36, List.forall_mem_cons.mpr ⟨lw_p37, List.forall_mem_cons.mpr ⟨lw_p38, List.forall_mem_cons.mpr ⟨lw_p39, List.forall_mem_cons.mpr ⟨lw_p40, List.forall_mem_cons.mpr ⟨lw_p41, List.forall_mem_cons.mpr ⟨lw_p42, List.forall_mem_cons.mpr ⟨lw_p43, List.forall_mem_cons.mpr ⟨lw_p44, List.forall_mem_cons.mpr ⟨lw_p45, List.forall_mem_cons.mpr ⟨lw_p46, List.forall_mem_cons.mpr ⟨lw_p47, fun _ h => absurd h List.not_mem_nil⟩⟩⟩⟩⟩⟩⟩⟩⟩⟩⟩⟩⟩⟩⟩⟩
theorem lw_p48 : lw_okq (⟨"LeafFallsModel", "rank", "(I)I"⟩, 27) := ⟨⟨by decide +kernel, by decide +kernel⟩, List.mem_of_getElem? (i := 728) (by decide +kernel), List.mem_of_getElem? (i := 953) (by decide +kernel), List.mem_of_getElem? (i := 954) (by decide +kernel)⟩
theorem lw_p49 : lw_okq (⟨"LeafFallsModel", "falls0", "(I)V"⟩, 27) := ⟨⟨by decide +kernel, by decide +kernel⟩, List.mem_of_getElem? (i := 728) (by decide +kernel), List.mem_of_getElem? (i := 973) (by decide +kernel), List.mem_of_getElem? (i := 974) (by decide +kernel)⟩
theorem lw_p50 : lw_okq (⟨"LeafFallsModel", "hanging", "()I"⟩, 27) := ⟨⟨by decide +kernel, by decide +kernel⟩, List.mem_of_getElem? (i := 728) (by decide +kernel), List.mem_of_getElem? (i := 977) (by decide +kernel), List.mem_of_getElem? (i := 978) (by decide +kernel)⟩
theorem lw_p51 : lw_okq (⟨"LeafFallsModel", "goesBy", "(I)I"⟩, 27) := ⟨⟨by decide +kernel, by decide +kernel⟩, List.mem_of_getElem? (i := 728) (by decide +kernel), List.mem_of_getElem? (i := 994) (by decide +kernel), List.mem_of_getElem? (i := 995) (by decide +kernel)⟩
theorem lw_p52 : lw_okq (⟨"LeafFallsModel", "goesByDraws", "()I"⟩, 27) := ⟨⟨by decide +kernel, by decide +kernel⟩, List.mem_of_getElem? (i := 728) (by decide +kernel), List.mem_of_getElem? (i := 1009) (by decide +kernel), List.mem_of_getElem? (i := 1010) (by decide +kernel)⟩
theorem lw_p53 : lw_okq (⟨"LeafFallsModel", "drawn", "()I"⟩, 27) := ⟨⟨by decide +kernel, by decide +kernel⟩, List.mem_of_getElem? (i := 728) (by decide +kernel), List.mem_of_getElem? (i := 1013) (by decide +kernel), List.mem_of_getElem? (i := 1014) (by decide +kernel)⟩
theorem lw_p54 : lw_okq (⟨"LeafFallsModel", "signOf", "(I)I"⟩, 27) := ⟨⟨by decide +kernel, by decide +kernel⟩, List.mem_of_getElem? (i := 728) (by decide +kernel), List.mem_of_getElem? (i := 1027) (by decide +kernel), List.mem_of_getElem? (i := 1028) (by decide +kernel)⟩
theorem lw_p55 : lw_okq (⟨"LeafFallsModel", "holdOfAll", "()I"⟩, 27) := ⟨⟨by decide +kernel, by decide +kernel⟩, List.mem_of_getElem? (i := 728) (by decide +kernel), List.mem_of_getElem? (i := 1035) (by decide +kernel), List.mem_of_getElem? (i := 1036) (by decide +kernel)⟩
theorem lw_p56 : lw_okq (⟨"LeafFallsModel", "rhymes", "()I"⟩, 27) := ⟨⟨by decide +kernel, by decide +kernel⟩, List.mem_of_getElem? (i := 728) (by decide +kernel), List.mem_of_getElem? (i := 1039) (by decide +kernel), List.mem_of_getElem? (i := 1040) (by decide +kernel)⟩
theorem lw_p57 : lw_okq (⟨"LeafFallsModel", "spelled", "()I"⟩, 27) := ⟨⟨by decide +kernel, by decide +kernel⟩, List.mem_of_getElem? (i := 728) (by decide +kernel), List.mem_of_getElem? (i := 1043) (by decide +kernel), List.mem_of_getElem? (i := 1044) (by decide +kernel)⟩
theorem lw_p58 : lw_okq (⟨"LeafFallsModel", "swayOfAll", "()I"⟩, 27) := ⟨⟨by decide +kernel, by decide +kernel⟩, List.mem_of_getElem? (i := 728) (by decide +kernel), List.mem_of_getElem? (i := 1047) (by decide +kernel), List.mem_of_getElem? (i := 1048) (by decide +kernel)⟩
theorem lw_p59 : lw_okq (⟨"LeafFallsModel", "fallsBy", "(I)I"⟩, 27) := ⟨⟨by decide +kernel, by decide +kernel⟩, List.mem_of_getElem? (i := 728) (by decide +kernel), List.mem_of_getElem? (i := 1055) (by decide +kernel), List.mem_of_getElem? (i := 1056) (by decide +kernel)⟩
theorem lw_p60 : lw_okq (⟨"LeafFallsModel", "lastBy", "(III)I"⟩, 27) := ⟨⟨by decide +kernel, by decide +kernel⟩, List.mem_of_getElem? (i := 728) (by decide +kernel), List.mem_of_getElem? (i := 1075) (by decide +kernel), List.mem_of_getElem? (i := 1076) (by decide +kernel)⟩
theorem lw_p61 : lw_okq (⟨"LeafFallsModel", "hangsBehind", "(III)Z"⟩, 27) := ⟨⟨by decide +kernel, by decide +kernel⟩, List.mem_of_getElem? (i := 728) (by decide +kernel), List.mem_of_getElem? (i := 1091) (by decide +kernel), List.mem_of_getElem? (i := 1092) (by decide +kernel)⟩
theorem lw_p62 : lw_okq (⟨"LeafFallsModel", "isTold", "(I)Z"⟩, 27) := ⟨⟨by decide +kernel, by decide +kernel⟩, List.mem_of_getElem? (i := 728) (by decide +kernel), List.mem_of_getElem? (i := 1106) (by decide +kernel), List.mem_of_getElem? (i := 1107) (by decide +kernel)⟩
theorem lw_p63 : lw_okq (⟨"LeafFallsModel", "isRow", "(II)Z"⟩, 27) := ⟨⟨by decide +kernel, by decide +kernel⟩, List.mem_of_getElem? (i := 728) (by decide +kernel), List.mem_of_getElem? (i := 1135) (by decide +kernel), List.mem_of_getElem? (i := 1136) (by decide +kernel)⟩
def lw_privs_4 : List (MethodName × Nat) := [(⟨"LeafFallsModel", "rank", "(I)I"⟩, 27), (⟨"LeafFallsModel", "falls0", "(I)V"⟩, 27), (⟨"LeafFallsModel", "hanging", "()I"⟩, 27), (⟨"LeafFallsModel", "goesBy", "(I)I"⟩, 27), (⟨"LeafFallsModel", "goesByDraws", "()I"⟩, 27), (⟨"LeafFallsModel", "drawn", "()I"⟩, 27), (⟨"LeafFallsModel", "signOf", "(I)I"⟩, 27), (⟨"LeafFallsModel", "holdOfAll", "()I"⟩, 27), (⟨"LeafFallsModel", "rhymes", "()I"⟩, 27), (⟨"LeafFallsModel", "spelled", "()I"⟩, 27), (⟨"LeafFallsModel", "swayOfAll", "()I"⟩, 27), (⟨"LeafFallsModel", "fallsBy", "(I)I"⟩, 27), (⟨"LeafFallsModel", "lastBy", "(III)I"⟩, 27), (⟨"LeafFallsModel", "hangsBehind", "(III)Z"⟩, 27), (⟨"LeafFallsModel", "isTold", "(I)Z"⟩, 27), (⟨"LeafFallsModel", "isRow", "(II)Z"⟩, 27)]
theorem lw_r4 : ∀ q ∈ lw_privs_4, lw_okq q := List.forall_mem_cons.mpr ⟨lw_p48, List.forall_mem_cons.mpr ⟨lw_p49, List.forall_mem_cons.mpr ⟨lw_p50, List.forall_mem_cons.mpr ⟨lw_p51, List.forall_mem_cons.mpr ⟨lw_p52, List.forall_mem_cons.mpr ⟨lw_p53, List.forall_mem_cons.mpr ⟨lw_p54, List.forall_mem_cons.mpr ⟨lw_p55, List.forall_mem_cons.mpr ⟨lw_p56, List.forall_mem_cons.mpr ⟨lw_p57, List.forall_mem_cons.mpr ⟨lw_p58, List.forall_mem_cons.mpr ⟨lw_p59, List.forall_mem_cons.mpr ⟨lw_p60, List.forall_mem_cons.mpr ⟨lw_p61, List.forall_mem_cons.mpr ⟨lw_p62, List.forall_mem_cons.mpr ⟨lw_p63, fun _ h => absurd h List.not_mem_nil⟩⟩⟩⟩⟩⟩⟩⟩⟩⟩⟩⟩⟩⟩⟩⟩
theorem lw_p64 : lw_okq (⟨"LeafFallsModel", "lacks", "(II)I"⟩, 27) := ⟨⟨by decide +kernel, by decide +kernel⟩, List.mem_of_getElem? (i := 728) (by decide +kernel), List.mem_of_getElem? (i := 1160) (by decide +kernel), List.mem_of_getElem? (i := 1161) (by decide +kernel)⟩
theorem lw_p65 : lw_okq (⟨"LeafFallsModel", "heldOn", "(I)I"⟩, 27) := ⟨⟨by decide +kernel, by decide +kernel⟩, List.mem_of_getElem? (i := 728) (by decide +kernel), List.mem_of_getElem? (i := 1180) (by decide +kernel), List.mem_of_getElem? (i := 1181) (by decide +kernel)⟩
theorem lw_p66 : lw_okq (⟨"LeafFallsModel", "turns", "(I)I"⟩, 27) := ⟨⟨by decide +kernel, by decide +kernel⟩, List.mem_of_getElem? (i := 728) (by decide +kernel), List.mem_of_getElem? (i := 1191) (by decide +kernel), List.mem_of_getElem? (i := 1192) (by decide +kernel)⟩
theorem lw_p67 : lw_okq (⟨"LeafFallsModel", "turnsOfYellow", "(I)I"⟩, 27) := ⟨⟨by decide +kernel, by decide +kernel⟩, List.mem_of_getElem? (i := 728) (by decide +kernel), List.mem_of_getElem? (i := 1195) (by decide +kernel), List.mem_of_getElem? (i := 1196) (by decide +kernel)⟩
theorem lw_p68 : lw_okq (⟨"LeafFallsModel", "runs", "(I)V"⟩, 27) := ⟨⟨by decide +kernel, by decide +kernel⟩, List.mem_of_getElem? (i := 728) (by decide +kernel), List.mem_of_getElem? (i := 1199) (by decide +kernel), List.mem_of_getElem? (i := 1200) (by decide +kernel)⟩
theorem lw_p69 : lw_okq (⟨"LeafFallsModel", "turnsPlain", "(I)I"⟩, 27) := ⟨⟨by decide +kernel, by decide +kernel⟩, List.mem_of_getElem? (i := 728) (by decide +kernel), List.mem_of_getElem? (i := 1203) (by decide +kernel), List.mem_of_getElem? (i := 1204) (by decide +kernel)⟩
theorem lw_p70 : lw_okq (⟨"LeafFallsModel", "names", "(I)I"⟩, 27) := ⟨⟨by decide +kernel, by decide +kernel⟩, List.mem_of_getElem? (i := 728) (by decide +kernel), List.mem_of_getElem? (i := 1207) (by decide +kernel), List.mem_of_getElem? (i := 1208) (by decide +kernel)⟩
theorem lw_p71 : lw_okq (⟨"LeafFallsModel", "namesPlain", "(I)I"⟩, 27) := ⟨⟨by decide +kernel, by decide +kernel⟩, List.mem_of_getElem? (i := 728) (by decide +kernel), List.mem_of_getElem? (i := 1211) (by decide +kernel), List.mem_of_getElem? (i := 1212) (by decide +kernel)⟩
theorem lw_p72 : lw_okq (⟨"LeafFallsModel", "parts", "(I)I"⟩, 27) := ⟨⟨by decide +kernel, by decide +kernel⟩, List.mem_of_getElem? (i := 728) (by decide +kernel), List.mem_of_getElem? (i := 1215) (by decide +kernel), List.mem_of_getElem? (i := 1216) (by decide +kernel)⟩
theorem lw_p73 : lw_okq (⟨"LeafFallsModel", "partsPlain", "(I)I"⟩, 27) := ⟨⟨by decide +kernel, by decide +kernel⟩, List.mem_of_getElem? (i := 728) (by decide +kernel), List.mem_of_getElem? (i := 1219) (by decide +kernel), List.mem_of_getElem? (i := 1220) (by decide +kernel)⟩
theorem lw_p74 : lw_okq (⟨"LeafFallsModel", "lands", "(I)I"⟩, 27) := ⟨⟨by decide +kernel, by decide +kernel⟩, List.mem_of_getElem? (i := 728) (by decide +kernel), List.mem_of_getElem? (i := 1223) (by decide +kernel), List.mem_of_getElem? (i := 1224) (by decide +kernel)⟩
theorem lw_p75 : lw_okq (⟨"LeafFallsModel", "landsPlain", "(I)I"⟩, 27) := ⟨⟨by decide +kernel, by decide +kernel⟩, List.mem_of_getElem? (i := 728) (by decide +kernel), List.mem_of_getElem? (i := 1227) (by decide +kernel), List.mem_of_getElem? (i := 1228) (by decide +kernel)⟩
theorem lw_p76 : lw_okq (⟨"LeafFallsModel", "boughsInUse", "()I"⟩, 27) := ⟨⟨by decide +kernel, by decide +kernel⟩, List.mem_of_getElem? (i := 728) (by decide +kernel), List.mem_of_getElem? (i := 1239) (by decide +kernel), List.mem_of_getElem? (i := 1240) (by decide +kernel)⟩
def lw_privs_5 : List (MethodName × Nat) := [(⟨"LeafFallsModel", "lacks", "(II)I"⟩, 27), (⟨"LeafFallsModel", "heldOn", "(I)I"⟩, 27), (⟨"LeafFallsModel", "turns", "(I)I"⟩, 27), (⟨"LeafFallsModel", "turnsOfYellow", "(I)I"⟩, 27), (⟨"LeafFallsModel", "runs", "(I)V"⟩, 27), (⟨"LeafFallsModel", "turnsPlain", "(I)I"⟩, 27), (⟨"LeafFallsModel", "names", "(I)I"⟩, 27), (⟨"LeafFallsModel", "namesPlain", "(I)I"⟩, 27), (⟨"LeafFallsModel", "parts", "(I)I"⟩, 27), (⟨"LeafFallsModel", "partsPlain", "(I)I"⟩, 27), (⟨"LeafFallsModel", "lands", "(I)I"⟩, 27), (⟨"LeafFallsModel", "landsPlain", "(I)I"⟩, 27), (⟨"LeafFallsModel", "boughsInUse", "()I"⟩, 27)]
theorem lw_r5 : ∀ q ∈ lw_privs_5, lw_okq q := List.forall_mem_cons.mpr ⟨lw_p64, List.forall_mem_cons.mpr ⟨lw_p65, List.forall_mem_cons.mpr ⟨lw_p66, List.forall_mem_cons.mpr ⟨lw_p67, List.forall_mem_cons.mpr ⟨lw_p68, List.forall_mem_cons.mpr ⟨lw_p69, List.forall_mem_cons.mpr ⟨lw_p70, List.forall_mem_cons.mpr ⟨lw_p71, List.forall_mem_cons.mpr ⟨lw_p72, List.forall_mem_cons.mpr ⟨lw_p73, List.forall_mem_cons.mpr ⟨lw_p74, List.forall_mem_cons.mpr ⟨lw_p75, List.forall_mem_cons.mpr ⟨lw_p76, fun _ h => absurd h List.not_mem_nil⟩⟩⟩⟩⟩⟩⟩⟩⟩⟩⟩⟩⟩
def lw_privs : List (MethodName × Nat) := lw_privs_1 ++ (lw_privs_2 ++ (lw_privs_3 ++ (lw_privs_4 ++ (lw_privs_5))))
def lw_tbl : List Cond := k2_sels lw_privs ++ tables_1
theorem lw_privs_ok : ∀ q ∈ lw_privs, lw_okq q := by
  show ∀ q ∈ lw_privs_1 ++ (lw_privs_2 ++ (lw_privs_3 ++ (lw_privs_4 ++ (lw_privs_5)))), lw_okq q
  exact List.forall_mem_append.mpr ⟨lw_r1, List.forall_mem_append.mpr ⟨lw_r2, List.forall_mem_append.mpr ⟨lw_r3, List.forall_mem_append.mpr ⟨lw_r4, lw_r5⟩⟩⟩⟩
end
section
def RX0 : String := "LeafFalls$Acts"
def TX0 : u_T := fun k => match k with
  | 0 => ("LeafFalls$Acts", "kind", "I", false)
  | 1 => ("LeafFalls$Acts", "n", "I", false)
  | 2 => ("LeafFalls$Acts", "a", "I", false)
  | 3 => ("LeafFalls$Acts", "ran", "[I", true)
  | 4 => ("LeafFalls$Acts", "ranCount", "I", false)
  | _ => ("LeafFalls$Acts", "parted", "Z", false)
def tyX0 : Nat → FieldType := fun k => match k with
  | 0 => .int
  | 1 => .int
  | 2 => .int
  | 3 => .array .int
  | 4 => .int
  | _ => .boolean
abbrev wsX00 : List Cond := u_ws RX0 TX0 6
theorem nmX0 : ∀ a, a < 6 → ∀ b, b < 6 → a ≠ b → (TX0 a).2.1 ≠ (TX0 b).2.1 := by decide +kernel
theorem tyX0_ok : ∀ k, k < 6 → parseFieldDescriptor (TX0 k).2.2.1 = some (tyX0 k) := by decide +kernel
abbrev cX0_init : ByteArray := prog_2_method_1_code
def yX0_init : MethodName := ⟨RX0, "<init>", "()V"⟩
abbrev cX0_perform : ByteArray := prog_2_method_2_code
def yX0_perform : MethodName := ⟨RX0, "perform", "(II)I"⟩
abbrev cX0_turns : ByteArray := prog_2_method_3_code
def yX0_turns : MethodName := ⟨RX0, "turns", "(I)I"⟩
abbrev cX0_names : ByteArray := prog_2_method_4_code
def yX0_names : MethodName := ⟨RX0, "names", "(I)I"⟩
abbrev cX0_parts : ByteArray := prog_2_method_5_code
def yX0_parts : MethodName := ⟨RX0, "parts", "(I)I"⟩
abbrev cX0_lands : ByteArray := prog_2_method_6_code
def yX0_lands : MethodName := ⟨RX0, "lands", "(I)I"⟩
abbrev cX0_began : ByteArray := prog_2_method_7_code
def yX0_began : MethodName := ⟨RX0, "began", "(IZ)V"⟩
def RX1 : String := "LeafFalls$Sheet"
def TX1 : u_T := fun k => match k with
  | 0 => ("LeafFalls$Sheet", "items", "[J", true)
  | 1 => ("LeafFalls$Sheet", "sort", "I", false)
  | _ => ("LeafFalls$Sheet", "length", "I", false)
def tyX1 : Nat → FieldType := fun k => match k with
  | 0 => .array .long
  | 1 => .int
  | _ => .int
abbrev wsX10 : List Cond := u_ws RX1 TX1 3
theorem nmX1 : ∀ a, a < 3 → ∀ b, b < 3 → a ≠ b → (TX1 a).2.1 ≠ (TX1 b).2.1 := by decide +kernel
theorem tyX1_ok : ∀ k, k < 3 → parseFieldDescriptor (TX1 k).2.2.1 = some (tyX1 k) := by decide +kernel
abbrev cX1_init : ByteArray := prog_3_method_1_code
def yX1_init : MethodName := ⟨RX1, "<init>", "()V"⟩
abbrev cX1_isMissing : ByteArray := prog_3_method_2_code
def yX1_isMissing : MethodName := ⟨RX1, "isMissing", "()Z"⟩
abbrev cX1_begin : ByteArray := prog_3_method_3_code
def yX1_begin : MethodName := ⟨RX1, "begin", "(II)V"⟩
abbrev cX1_narrowed : ByteArray := prog_3_method_4_code
def yX1_narrowed : MethodName := ⟨RX1, "narrowed", "(I)J"⟩
def RX2 : String := "LeafFalls$Shelf"
def TX2 : u_T := fun k => match k with
  | 0 => ("LeafFalls$Shelf", "what", "I", false)
  | 1 => ("LeafFalls$Shelf", "number", "I", false)
  | _ => ("LeafFalls$Shelf", "sort", "I", false)
def tyX2 : Nat → FieldType := fun k => match k with
  | 0 => .int
  | 1 => .int
  | _ => .int
abbrev wsX20 : List Cond := u_ws RX2 TX2 3
theorem nmX2 : ∀ a, a < 3 → ∀ b, b < 3 → a ≠ b → (TX2 a).2.1 ≠ (TX2 b).2.1 := by decide +kernel
theorem tyX2_ok : ∀ k, k < 3 → parseFieldDescriptor (TX2 k).2.2.1 = some (tyX2 k) := by decide +kernel
abbrev cX2_init : ByteArray := prog_4_method_1_code
def yX2_init : MethodName := ⟨RX2, "<init>", "()V"⟩
abbrev cX2_takeLeaf : ByteArray := prog_4_method_2_code
def yX2_takeLeaf : MethodName := ⟨RX2, "takeLeaf", "(I)V"⟩
abbrev cX2_takeRow : ByteArray := prog_4_method_3_code
def yX2_takeRow : MethodName := ⟨RX2, "takeRow", "(LLeafFalls$Sheet;)V"⟩
def RX3 : String := "LeafFalls$Text"
def TX3 : u_T := fun k => match k with
  | 0 => ("LeafFalls$Text", "bytes", "[B", true)
  | 1 => ("LeafFalls$Text", "length", "I", false)
  | 2 => ("LeafFalls$Text", "sort", "I", false)
  | 3 => ("LeafFalls$Text", "start", "I", false)
  | 4 => ("LeafFalls$Text", "end", "I", false)
  | _ => ("LeafFalls$Text", "fault", "I", false)
def tyX3 : Nat → FieldType := fun k => match k with
  | 0 => .array .byte
  | 1 => .int
  | 2 => .int
  | 3 => .int
  | 4 => .int
  | _ => .int
abbrev wsX30 : List Cond := u_ws RX3 TX3 6
theorem nmX3 : ∀ a, a < 6 → ∀ b, b < 6 → a ≠ b → (TX3 a).2.1 ≠ (TX3 b).2.1 := by decide +kernel
theorem tyX3_ok : ∀ k, k < 6 → parseFieldDescriptor (TX3 k).2.2.1 = some (tyX3 k) := by decide +kernel
abbrev cX3_init : ByteArray := prog_5_method_1_code
def yX3_init : MethodName := ⟨RX3, "<init>", "()V"⟩
abbrev cX3_readInto : ByteArray := prog_5_method_2_code
def yX3_readInto : MethodName := ⟨RX3, "readInto", "(LLeafFalls$Tree;)I"⟩
abbrev cX3_readLaw : ByteArray := prog_5_method_3_code
def yX3_readLaw : MethodName := ⟨RX3, "readLaw", "(LLeafFalls$Tree;I)V"⟩
abbrev cX3_readSway : ByteArray := prog_5_method_4_code
def yX3_readSway : MethodName := ⟨RX3, "readSway", "(LLeafFalls$Tree;)V"⟩
abbrev cX3_readLeaf : ByteArray := prog_5_method_5_code
def yX3_readLeaf : MethodName := ⟨RX3, "readLeaf", "(LLeafFalls$Tree;I)V"⟩
abbrev cX3_numberNamed : ByteArray := prog_5_method_6_code
def yX3_numberNamed : MethodName := ⟨RX3, "numberNamed", "(Ljava/lang/String;II)I"⟩
abbrev cX3_number : ByteArray := prog_5_method_7_code
def yX3_number : MethodName := ⟨RX3, "number", "(I)I"⟩
abbrev cX3_value : ByteArray := prog_5_method_8_code
def yX3_value : MethodName := ⟨RX3, "value", "()I"⟩
abbrev cX3_passName : ByteArray := prog_5_method_9_code
def yX3_passName : MethodName := ⟨RX3, "passName", "(Ljava/lang/String;)Z"⟩
abbrev cX3_passSemicolon : ByteArray := prog_5_method_10_code
def yX3_passSemicolon : MethodName := ⟨RX3, "passSemicolon", "()Z"⟩
abbrev cX3_isName : ByteArray := prog_5_method_11_code
def yX3_isName : MethodName := ⟨RX3, "isName", "(Ljava/lang/String;)Z"⟩
abbrev cX3_lawNamed : ByteArray := prog_5_method_12_code
def yX3_lawNamed : MethodName := ⟨RX3, "lawNamed", "()I"⟩
abbrev cX3_kindNamed : ByteArray := prog_5_method_13_code
def yX3_kindNamed : MethodName := ⟨RX3, "kindNamed", "()I"⟩
abbrev cX3_kindName : ByteArray := prog_5_method_14_code
def yX3_kindName : MethodName := ⟨RX3, "kindName", "(I)Ljava/lang/String;"⟩
abbrev cX3_step : ByteArray := prog_5_method_15_code
def yX3_step : MethodName := ⟨RX3, "step", "()V"⟩
abbrev cX3_sortAt : ByteArray := prog_5_method_16_code
def yX3_sortAt : MethodName := ⟨RX3, "sortAt", "(I)I"⟩
def RX4 : String := "LeafFalls$Tree"
def TX4 : u_T := fun k => match k with
  | 0 => ("LeafFalls$Tree", "laws", "[I", true)
  | 1 => ("LeafFalls$Tree", "sways", "[I", true)
  | 2 => ("LeafFalls$Tree", "kinds", "[I", true)
  | 3 => ("LeafFalls$Tree", "boughs", "[I", true)
  | 4 => ("LeafFalls$Tree", "holds", "[I", true)
  | 5 => ("LeafFalls$Tree", "signs", "[I", true)
  | 6 => ("LeafFalls$Tree", "places", "[I", true)
  | 7 => ("LeafFalls$Tree", "count", "I", false)
  | 8 => ("LeafFalls$Tree", "fallen", "I", false)
  | 9 => ("LeafFalls$Tree", "today", "I", false)
  | 10 => ("LeafFalls$Tree", "z", "I", false)
  | _ => ("LeafFalls$Tree", "ties", "I", false)
def tyX4 : Nat → FieldType := fun k => match k with
  | 0 => .array .int
  | 1 => .array .int
  | 2 => .array .int
  | 3 => .array .int
  | 4 => .array .int
  | 5 => .array .int
  | 6 => .array .int
  | 7 => .int
  | 8 => .int
  | 9 => .int
  | 10 => .int
  | _ => .int
abbrev wsX40 : List Cond := u_ws RX4 TX4 12
theorem nmX4 : ∀ a, a < 12 → ∀ b, b < 12 → a ≠ b → (TX4 a).2.1 ≠ (TX4 b).2.1 := by decide +kernel
theorem tyX4_ok : ∀ k, k < 12 → parseFieldDescriptor (TX4 k).2.2.1 = some (tyX4 k) := by decide +kernel
abbrev cX4_init : ByteArray := prog_6_method_1_code
def yX4_init : MethodName := ⟨RX4, "<init>", "()V"⟩
abbrev cX4_clear : ByteArray := prog_6_method_2_code
def yX4_clear : MethodName := ⟨RX4, "clear", "()V"⟩
abbrev cX4_become : ByteArray := prog_6_method_3_code
def yX4_become : MethodName := ⟨RX4, "become", "(LLeafFalls$Tree;)V"⟩
abbrev cX4_grow : ByteArray := prog_6_method_4_code
def yX4_grow : MethodName := ⟨RX4, "grow", "(IIII)V"⟩
abbrev cX4_has : ByteArray := prog_6_method_5_code
def yX4_has : MethodName := ⟨RX4, "has", "(I)Z"⟩
abbrev cX4_hangs : ByteArray := prog_6_method_6_code
def yX4_hangs : MethodName := ⟨RX4, "hangs", "(I)Z"⟩
abbrev cX4_hanging : ByteArray := prog_6_method_7_code
def yX4_hanging : MethodName := ⟨RX4, "hanging", "()I"⟩
abbrev cX4_hangingSet : ByteArray := prog_6_method_8_code
def yX4_hangingSet : MethodName := ⟨RX4, "hangingSet", "()I"⟩
abbrev cX4_hangingOn : ByteArray := prog_6_method_9_code
def yX4_hangingOn : MethodName := ⟨RX4, "hangingOn", "(I)I"⟩
abbrev cX4_boughsHungOn : ByteArray := prog_6_method_10_code
def yX4_boughsHungOn : MethodName := ⟨RX4, "boughsHungOn", "()I"⟩
abbrev cX4_mates : ByteArray := prog_6_method_11_code
def yX4_mates : MethodName := ⟨RX4, "mates", "(I)I"⟩
abbrev cX4_loses : ByteArray := prog_6_method_12_code
def yX4_loses : MethodName := ⟨RX4, "loses", "(I)I"⟩
abbrev cX4_rank : ByteArray := prog_6_method_13_code
def yX4_rank : MethodName := ⟨RX4, "rank", "(I)I"⟩
abbrev cX4_passDay : ByteArray := prog_6_method_14_code
def yX4_passDay : MethodName := ⟨RX4, "passDay", "()I"⟩
abbrev cX4_faller : ByteArray := prog_6_method_15_code
def yX4_faller : MethodName := ⟨RX4, "faller", "()I"⟩
abbrev cX4_isTied : ByteArray := prog_6_method_16_code
def yX4_isTied : MethodName := ⟨RX4, "isTied", "(I)Z"⟩
abbrev cX4_fell : ByteArray := prog_6_method_17_code
def yX4_fell : MethodName := ⟨RX4, "fell", "(I)V"⟩
abbrev cX4_passDayByDraws : ByteArray := prog_6_method_18_code
def yX4_passDayByDraws : MethodName := ⟨RX4, "passDayByDraws", "()I"⟩
abbrev cX4_drawn : ByteArray := prog_6_method_19_code
def yX4_drawn : MethodName := ⟨RX4, "drawn", "()I"⟩
abbrev cX4_signWritten : ByteArray := prog_6_method_20_code
def yX4_signWritten : MethodName := ⟨RX4, "signWritten", "(I)I"⟩
abbrev cX4_rhymes : ByteArray := prog_6_method_21_code
def yX4_rhymes : MethodName := ⟨RX4, "rhymes", "()I"⟩
abbrev cX4_spelled : ByteArray := prog_6_method_22_code
def yX4_spelled : MethodName := ⟨RX4, "spelled", "()I"⟩
abbrev cX4_holdTogether : ByteArray := prog_6_method_23_code
def yX4_holdTogether : MethodName := ⟨RX4, "holdTogether", "()I"⟩
abbrev cX4_swayTogether : ByteArray := prog_6_method_24_code
def yX4_swayTogether : MethodName := ⟨RX4, "swayTogether", "()I"⟩
def RX5 : String := "LeafFalls"
def TX5 : u_T := fun k => match k with
  | 0 => ("LeafFalls", "now", "LLeafFalls$Tree;", true)
  | 1 => ("LeafFalls", "tried", "LLeafFalls$Tree;", true)
  | 2 => ("LeafFalls", "kept", "LLeafFalls$Tree;", true)
  | 3 => ("LeafFalls", "hasKept", "Z", false)
  | 4 => ("LeafFalls", "tape", "LLeafFalls$Text;", true)
  | 5 => ("LeafFalls", "rows", "[I", true)
  | 6 => ("LeafFalls", "rowCount", "I", false)
  | 7 => ("LeafFalls", "sheets", "[LLeafFalls$Sheet;", true)
  | 8 => ("LeafFalls", "shelves", "[LLeafFalls$Shelf;", true)
  | _ => ("LeafFalls", "acts", "LLeafFalls$Acts;", true)
def tyX5 : Nat → FieldType := fun k => match k with
  | 0 => .object "LeafFalls$Tree"
  | 1 => .object "LeafFalls$Tree"
  | 2 => .object "LeafFalls$Tree"
  | 3 => .boolean
  | 4 => .object "LeafFalls$Text"
  | 5 => .array .int
  | 6 => .int
  | 7 => .array (.object "LeafFalls$Sheet")
  | 8 => .array (.object "LeafFalls$Shelf")
  | _ => .object "LeafFalls$Acts"
abbrev wsX50 : List Cond := u_ws RX5 TX5 10
theorem nmX5 : ∀ a, a < 10 → ∀ b, b < 10 → a ≠ b → (TX5 a).2.1 ≠ (TX5 b).2.1 := by decide +kernel
theorem tyX5_ok : ∀ k, k < 10 → parseFieldDescriptor (TX5 k).2.2.1 = some (tyX5 k) := by decide +kernel
abbrev cX5_init : ByteArray := prog_1_method_1_code
def yX5_init : MethodName := ⟨RX5, "<init>", "()V"⟩
abbrev cX5_feed : ByteArray := prog_1_method_2_code
def yX5_feed : MethodName := ⟨RX5, "feed", "(JI)I"⟩
abbrev cX5_autumn : ByteArray := prog_1_method_3_code
def yX5_autumn : MethodName := ⟨RX5, "autumn", "()I"⟩
abbrev cX5_set : ByteArray := prog_1_method_4_code
def yX5_set : MethodName := ⟨RX5, "set", "(II)I"⟩
abbrev cX5_lawOf : ByteArray := prog_1_method_5_code
def yX5_lawOf : MethodName := ⟨RX5, "lawOf", "(I)I"⟩
abbrev cX5_leaf : ByteArray := prog_1_method_6_code
def yX5_leaf : MethodName := ⟨RX5, "leaf", "(IIII)I"⟩
abbrev cX5_of : ByteArray := prog_1_method_7_code
def yX5_of : MethodName := ⟨RX5, "of", "(II)I"⟩
abbrev cX5_does : ByteArray := prog_1_method_8_code
def yX5_does : MethodName := ⟨RX5, "does", "(II)I"⟩
abbrev cX5_mind : ByteArray := prog_1_method_9_code
def yX5_mind : MethodName := ⟨RX5, "mind", "(III)I"⟩
abbrev cX5_hold : ByteArray := prog_1_method_10_code
def yX5_hold : MethodName := ⟨RX5, "hold", "(II)I"⟩
abbrev cX5_move : ByteArray := prog_1_method_11_code
def yX5_move : MethodName := ⟨RX5, "move", "(II)I"⟩
abbrev cX5_pluck : ByteArray := prog_1_method_12_code
def yX5_pluck : MethodName := ⟨RX5, "pluck", "(I)I"⟩
abbrev cX5_bough : ByteArray := prog_1_method_13_code
def yX5_bough : MethodName := ⟨RX5, "bough", "(II)I"⟩
abbrev cX5_sway : ByteArray := prog_1_method_14_code
def yX5_sway : MethodName := ⟨RX5, "sway", "(II)I"⟩
abbrev cX5_days : ByteArray := prog_1_method_15_code
def yX5_days : MethodName := ⟨RX5, "days", "(I)I"⟩
abbrev cX5_seed : ByteArray := prog_1_method_16_code
def yX5_seed : MethodName := ⟨RX5, "seed", "(I)I"⟩
abbrev cX5_day : ByteArray := prog_1_method_17_code
def yX5_day : MethodName := ⟨RX5, "day", "()I"⟩
abbrev cX5_lost : ByteArray := prog_1_method_18_code
def yX5_lost : MethodName := ⟨RX5, "lost", "(I)I"⟩
abbrev cX5_written : ByteArray := prog_1_method_19_code
def yX5_written : MethodName := ⟨RX5, "written", "(I)I"⟩
abbrev cX5_state : ByteArray := prog_1_method_20_code
def yX5_state : MethodName := ⟨RX5, "state", "(I)I"⟩
abbrev cX5_falls : ByteArray := prog_1_method_21_code
def yX5_falls : MethodName := ⟨RX5, "falls", "(I)I"⟩
abbrev cX5_bare : ByteArray := prog_1_method_22_code
def yX5_bare : MethodName := ⟨RX5, "bare", "()I"⟩
abbrev cX5_next : ByteArray := prog_1_method_23_code
def yX5_next : MethodName := ⟨RX5, "next", "()I"⟩
abbrev cX5_latest : ByteArray := prog_1_method_24_code
def yX5_latest : MethodName := ⟨RX5, "latest", "()I"⟩
abbrev cX5_boughFor : ByteArray := prog_1_method_25_code
def yX5_boughFor : MethodName := ⟨RX5, "boughFor", "(I)I"⟩
abbrev cX5_kindFor : ByteArray := prog_1_method_26_code
def yX5_kindFor : MethodName := ⟨RX5, "kindFor", "(I)I"⟩
abbrev cX5_holdFor : ByteArray := prog_1_method_27_code
def yX5_holdFor : MethodName := ⟨RX5, "holdFor", "(II)I"⟩
abbrev cX5_tiedFor : ByteArray := prog_1_method_28_code
def yX5_tiedFor : MethodName := ⟨RX5, "tiedFor", "(II)I"⟩
abbrev cX5_fits : ByteArray := prog_1_method_29_code
def yX5_fits : MethodName := ⟨RX5, "fits", "(III)I"⟩
abbrev cX5_odds : ByteArray := prog_1_method_30_code
def yX5_odds : MethodName := ⟨RX5, "odds", "(III)J"⟩
abbrev cX5_hope : ByteArray := prog_1_method_31_code
def yX5_hope : MethodName := ⟨RX5, "hope", "(II)J"⟩
abbrev cX5_prove : ByteArray := prog_1_method_32_code
def yX5_prove : MethodName := ⟨RX5, "prove", "(II)I"⟩
abbrev cX5_row : ByteArray := prog_1_method_33_code
def yX5_row : MethodName := ⟨RX5, "row", "(II)I"⟩
abbrev cX5_alterRow : ByteArray := prog_1_method_34_code
def yX5_alterRow : MethodName := ⟨RX5, "alterRow", "(III)I"⟩
abbrev cX5_judge : ByteArray := prog_1_method_35_code
def yX5_judge : MethodName := ⟨RX5, "judge", "(I)I"⟩
abbrev cX5_minds : ByteArray := prog_1_method_36_code
def yX5_minds : MethodName := ⟨RX5, "minds", "(IIII)I"⟩
abbrev cX5_sheet : ByteArray := prog_1_method_37_code
def yX5_sheet : MethodName := ⟨RX5, "sheet", "(III)I"⟩
abbrev cX5_put : ByteArray := prog_1_method_38_code
def yX5_put : MethodName := ⟨RX5, "put", "(III)I"⟩
abbrev cX5_item : ByteArray := prog_1_method_39_code
def yX5_item : MethodName := ⟨RX5, "item", "(III)I"⟩
abbrev cX5_shelf : ByteArray := prog_1_method_40_code
def yX5_shelf : MethodName := ⟨RX5, "shelf", "(III)I"⟩
abbrev cX5_taken : ByteArray := prog_1_method_41_code
def yX5_taken : MethodName := ⟨RX5, "taken", "(II)I"⟩
abbrev cX5_act : ByteArray := prog_1_method_42_code
def yX5_act : MethodName := ⟨RX5, "act", "(III)I"⟩
abbrev cX5_trace : ByteArray := prog_1_method_43_code
def yX5_trace : MethodName := ⟨RX5, "trace", "(I)I"⟩
abbrev cX5_many : ByteArray := prog_1_method_44_code
def yX5_many : MethodName := ⟨RX5, "many", "(I)I"⟩
abbrev cX5_keep : ByteArray := prog_1_method_45_code
def yX5_keep : MethodName := ⟨RX5, "keep", "()I"⟩
abbrev cX5_again : ByteArray := prog_1_method_46_code
def yX5_again : MethodName := ⟨RX5, "again", "()I"⟩
abbrev cX5_isWithin : ByteArray := prog_1_method_47_code
def yX5_isWithin : MethodName := ⟨RX5, "isWithin", "(III)Z"⟩
abbrev cX5_held : ByteArray := prog_1_method_48_code
def yX5_held : MethodName := ⟨RX5, "held", "(I)I"⟩
abbrev cX5_mostOfLaw : ByteArray := prog_1_method_49_code
def yX5_mostOfLaw : MethodName := ⟨RX5, "mostOfLaw", "(I)I"⟩
abbrev cX5_isUnder : ByteArray := prog_1_method_50_code
def yX5_isUnder : MethodName := ⟨RX5, "isUnder", "(II)Z"⟩
abbrev cX5_daysToFall : ByteArray := prog_1_method_51_code
def yX5_daysToFall : MethodName := ⟨RX5, "daysToFall", "(I)I"⟩
abbrev cX5_hangsBehind : ByteArray := prog_1_method_52_code
def yX5_hangsBehind : MethodName := ⟨RX5, "hangsBehind", "(II)Z"⟩
abbrev cX5_fitsWithHold : ByteArray := prog_1_method_53_code
def yX5_fitsWithHold : MethodName := ⟨RX5, "fitsWithHold", "(LLeafFalls$Sheet;II)Z"⟩
abbrev cX5_rowPartTried : ByteArray := prog_1_method_54_code
def yX5_rowPartTried : MethodName := ⟨RX5, "rowPartTried", "(II)I"⟩
abbrev cX5_isRowPart : ByteArray := prog_1_method_55_code
def yX5_isRowPart : MethodName := ⟨RX5, "isRowPart", "(II)Z"⟩
abbrev cX5_isNothing : ByteArray := prog_1_method_56_code
def yX5_isNothing : MethodName := ⟨RX5, "isNothing", "(LLeafFalls$Shelf;)Z"⟩
abbrev cX5_ways : ByteArray := prog_1_method_57_code
def yX5_ways : MethodName := ⟨RX5, "ways", "(II)J"⟩
abbrev cX5_partOf : ByteArray := prog_1_method_58_code
def yX5_partOf : MethodName := ⟨RX5, "partOf", "(JJI)J"⟩
def RX6 : String := "LeafFallsModel"
def TX6 : u_T := fun k => match k with
  | 0 => ("LeafFallsModel", "s", "[I", true)
  | 1 => ("LeafFallsModel", "held", "[I", true)
  | 2 => ("LeafFallsModel", "aside", "[I", true)
  | 3 => ("LeafFallsModel", "before", "[I", true)
  | 4 => ("LeafFallsModel", "isHeld", "Z", false)
  | 5 => ("LeafFallsModel", "tape", "[I", true)
  | 6 => ("LeafFallsModel", "taped", "I", false)
  | 7 => ("LeafFallsModel", "token", "I", false)
  | 8 => ("LeafFallsModel", "from", "I", false)
  | 9 => ("LeafFallsModel", "to", "I", false)
  | 10 => ("LeafFallsModel", "value", "I", false)
  | 11 => ("LeafFallsModel", "isWrong", "Z", false)
  | 12 => ("LeafFallsModel", "losing", "[I", true)
  | 13 => ("LeafFallsModel", "rows", "[I", true)
  | 14 => ("LeafFallsModel", "rowN", "I", false)
  | 15 => ("LeafFallsModel", "sortOf", "[I", true)
  | 16 => ("LeafFallsModel", "sizeOf", "[I", true)
  | 17 => ("LeafFallsModel", "numbers", "[I", true)
  | 18 => ("LeafFallsModel", "holdsWhat", "[I", true)
  | 19 => ("LeafFallsModel", "holdsWhich", "[I", true)
  | 20 => ("LeafFallsModel", "holdsMany", "[I", true)
  | 21 => ("LeafFallsModel", "bodies", "[I", true)
  | 22 => ("LeafFallsModel", "ran", "I", false)
  | 23 => ("LeafFallsModel", "actKind", "I", false)
  | 24 => ("LeafFallsModel", "actN", "I", false)
  | 25 => ("LeafFallsModel", "actA", "I", false)
  | _ => ("LeafFallsModel", "isParted", "Z", false)
def tyX6 : Nat → FieldType := fun k => match k with
  | 0 => .array .int
  | 1 => .array .int
  | 2 => .array .int
  | 3 => .array .int
  | 4 => .boolean
  | 5 => .array .int
  | 6 => .int
  | 7 => .int
  | 8 => .int
  | 9 => .int
  | 10 => .int
  | 11 => .boolean
  | 12 => .array .int
  | 13 => .array .int
  | 14 => .int
  | 15 => .array .int
  | 16 => .array .int
  | 17 => .array .int
  | 18 => .array .int
  | 19 => .array .int
  | 20 => .array .int
  | 21 => .array .int
  | 22 => .int
  | 23 => .int
  | 24 => .int
  | 25 => .int
  | _ => .boolean
abbrev wsX60 : List Cond := u_ws RX6 TX6 27
theorem nmX6 : ∀ a, a < 27 → ∀ b, b < 27 → a ≠ b → (TX6 a).2.1 ≠ (TX6 b).2.1 := by decide +kernel
theorem tyX6_ok : ∀ k, k < 27 → parseFieldDescriptor (TX6 k).2.2.1 = some (tyX6 k) := by decide +kernel
abbrev cX6_init : ByteArray := prog_8_method_1_code
def yX6_init : MethodName := ⟨RX6, "<init>", "()V"⟩
abbrev cX6_begins : ByteArray := prog_8_method_2_code
def yX6_begins : MethodName := ⟨RX6, "begins", "()V"⟩
abbrev cX6_isIn : ByteArray := prog_8_method_3_code
def yX6_isIn : MethodName := ⟨RX6, "isIn", "(JJJ)Z"⟩
abbrev cX6_isBough : ByteArray := prog_8_method_4_code
def yX6_isBough : MethodName := ⟨RX6, "isBough", "(I)Z"⟩
abbrev cX6_isOne : ByteArray := prog_8_method_5_code
def yX6_isOne : MethodName := ⟨RX6, "isOne", "(I)Z"⟩
abbrev cX6_its : ByteArray := prog_8_method_6_code
def yX6_its : MethodName := ⟨RX6, "its", "(II)I"⟩
abbrev cX6_becomes : ByteArray := prog_8_method_7_code
def yX6_becomes : MethodName := ⟨RX6, "becomes", "(II)I"⟩
abbrev cX6_copyRow : ByteArray := prog_8_method_8_code
def yX6_copyRow : MethodName := ⟨RX6, "copyRow", "([I[I)V"⟩
abbrev cX6_within : ByteArray := prog_8_method_9_code
def yX6_within : MethodName := ⟨RX6, "within", "(I)I"⟩
abbrev cX6_size : ByteArray := prog_8_method_10_code
def yX6_size : MethodName := ⟨RX6, "size", "(I)I"⟩
abbrev cX6_isUnder : ByteArray := prog_8_method_11_code
def yX6_isUnder : MethodName := ⟨RX6, "isUnder", "(II)Z"⟩
abbrev cX6_feed : ByteArray := prog_8_method_12_code
def yX6_feed : MethodName := ⟨RX6, "feed", "(JI)I"⟩
abbrev cX6_isAlpha : ByteArray := prog_8_method_13_code
def yX6_isAlpha : MethodName := ⟨RX6, "isAlpha", "(I)Z"⟩
abbrev cX6_isDigit : ByteArray := prog_8_method_14_code
def yX6_isDigit : MethodName := ⟨RX6, "isDigit", "(I)Z"⟩
abbrev cX6_byteAt : ByteArray := prog_8_method_15_code
def yX6_byteAt : MethodName := ⟨RX6, "byteAt", "(I)I"⟩
abbrev cX6_nextToken : ByteArray := prog_8_method_16_code
def yX6_nextToken : MethodName := ⟨RX6, "nextToken", "()V"⟩
abbrev cX6_needs : ByteArray := prog_8_method_17_code
def yX6_needs : MethodName := ⟨RX6, "needs", "(Z)V"⟩
abbrev cX6_isName : ByteArray := prog_8_method_18_code
def yX6_isName : MethodName := ⟨RX6, "isName", "(IIIII)Z"⟩
abbrev cX6_isSame : ByteArray := prog_8_method_19_code
def yX6_isSame : MethodName := ⟨RX6, "isSame", "(IIII)Z"⟩
abbrev cX6_isFour : ByteArray := prog_8_method_20_code
def yX6_isFour : MethodName := ⟨RX6, "isFour", "(IIII)Z"⟩
abbrev cX6_kindHere : ByteArray := prog_8_method_22_code
def yX6_kindHere : MethodName := ⟨RX6, "kindHere", "()I"⟩
abbrev cX6_numberTo : ByteArray := prog_8_method_23_code
def yX6_numberTo : MethodName := ⟨RX6, "numberTo", "(II)V"⟩
abbrev cX6_perhaps : ByteArray := prog_8_method_24_code
def yX6_perhaps : MethodName := ⟨RX6, "perhaps", "(ZII)V"⟩
abbrev cX6_isTwo : ByteArray := prog_8_method_25_code
def yX6_isTwo : MethodName := ⟨RX6, "isTwo", "(II)Z"⟩
abbrev cX6_leafHere : ByteArray := prog_8_method_26_code
def yX6_leafHere : MethodName := ⟨RX6, "leafHere", "(I)V"⟩
abbrev cX6_swayHere : ByteArray := prog_8_method_27_code
def yX6_swayHere : MethodName := ⟨RX6, "swayHere", "()V"⟩
abbrev cX6_lawHere : ByteArray := prog_8_method_28_code
def yX6_lawHere : MethodName := ⟨RX6, "lawHere", "()I"⟩
abbrev cX6_itemHere : ByteArray := prog_8_method_29_code
def yX6_itemHere : MethodName := ⟨RX6, "itemHere", "()V"⟩
abbrev cX6_autumn : ByteArray := prog_8_method_30_code
def yX6_autumn : MethodName := ⟨RX6, "autumn", "()I"⟩
abbrev cX6_set : ByteArray := prog_8_method_31_code
def yX6_set : MethodName := ⟨RX6, "set", "(II)I"⟩
abbrev cX6_lawOf : ByteArray := prog_8_method_32_code
def yX6_lawOf : MethodName := ⟨RX6, "lawOf", "(I)I"⟩
abbrev cX6_leaf : ByteArray := prog_8_method_33_code
def yX6_leaf : MethodName := ⟨RX6, "leaf", "(IIII)I"⟩
abbrev cX6_hangingOn : ByteArray := prog_8_method_34_code
def yX6_hangingOn : MethodName := ⟨RX6, "hangingOn", "(I)I"⟩
abbrev cX6_mates : ByteArray := prog_8_method_35_code
def yX6_mates : MethodName := ⟨RX6, "mates", "(I)I"⟩
abbrev cX6_loses : ByteArray := prog_8_method_36_code
def yX6_loses : MethodName := ⟨RX6, "loses", "(I)I"⟩
abbrev cX6_rank : ByteArray := prog_8_method_37_code
def yX6_rank : MethodName := ⟨RX6, "rank", "(I)I"⟩
abbrev cX6_of : ByteArray := prog_8_method_38_code
def yX6_of : MethodName := ⟨RX6, "of", "(II)I"⟩
abbrev cX6_does : ByteArray := prog_8_method_39_code
def yX6_does : MethodName := ⟨RX6, "does", "(II)I"⟩
abbrev cX6_mind : ByteArray := prog_8_method_40_code
def yX6_mind : MethodName := ⟨RX6, "mind", "(III)I"⟩
abbrev cX6_hold : ByteArray := prog_8_method_41_code
def yX6_hold : MethodName := ⟨RX6, "hold", "(II)I"⟩
abbrev cX6_move : ByteArray := prog_8_method_42_code
def yX6_move : MethodName := ⟨RX6, "move", "(II)I"⟩
abbrev cX6_hanging : ByteArray := prog_8_method_43_code
def yX6_hanging : MethodName := ⟨RX6, "hanging", "()I"⟩
abbrev cX6_falls0 : ByteArray := prog_8_method_44_code
def yX6_falls0 : MethodName := ⟨RX6, "falls0", "(I)V"⟩
abbrev cX6_pluck : ByteArray := prog_8_method_45_code
def yX6_pluck : MethodName := ⟨RX6, "pluck", "(I)I"⟩
abbrev cX6_bough : ByteArray := prog_8_method_46_code
def yX6_bough : MethodName := ⟨RX6, "bough", "(II)I"⟩
abbrev cX6_sway : ByteArray := prog_8_method_47_code
def yX6_sway : MethodName := ⟨RX6, "sway", "(II)I"⟩
abbrev cX6_goesBy : ByteArray := prog_8_method_48_code
def yX6_goesBy : MethodName := ⟨RX6, "goesBy", "(I)I"⟩
abbrev cX6_days : ByteArray := prog_8_method_49_code
def yX6_days : MethodName := ⟨RX6, "days", "(I)I"⟩
abbrev cX6_seed : ByteArray := prog_8_method_50_code
def yX6_seed : MethodName := ⟨RX6, "seed", "(I)I"⟩
abbrev cX6_drawn : ByteArray := prog_8_method_51_code
def yX6_drawn : MethodName := ⟨RX6, "drawn", "()I"⟩
abbrev cX6_goesByDraws : ByteArray := prog_8_method_52_code
def yX6_goesByDraws : MethodName := ⟨RX6, "goesByDraws", "()I"⟩
abbrev cX6_day : ByteArray := prog_8_method_53_code
def yX6_day : MethodName := ⟨RX6, "day", "()I"⟩
abbrev cX6_lost : ByteArray := prog_8_method_54_code
def yX6_lost : MethodName := ⟨RX6, "lost", "(I)I"⟩
abbrev cX6_signOf : ByteArray := prog_8_method_55_code
def yX6_signOf : MethodName := ⟨RX6, "signOf", "(I)I"⟩
abbrev cX6_written : ByteArray := prog_8_method_56_code
def yX6_written : MethodName := ⟨RX6, "written", "(I)I"⟩
abbrev cX6_rhymes : ByteArray := prog_8_method_57_code
def yX6_rhymes : MethodName := ⟨RX6, "rhymes", "()I"⟩
abbrev cX6_spelled : ByteArray := prog_8_method_58_code
def yX6_spelled : MethodName := ⟨RX6, "spelled", "()I"⟩
abbrev cX6_holdOfAll : ByteArray := prog_8_method_59_code
def yX6_holdOfAll : MethodName := ⟨RX6, "holdOfAll", "()I"⟩
abbrev cX6_swayOfAll : ByteArray := prog_8_method_60_code
def yX6_swayOfAll : MethodName := ⟨RX6, "swayOfAll", "()I"⟩
abbrev cX6_state : ByteArray := prog_8_method_61_code
def yX6_state : MethodName := ⟨RX6, "state", "(I)I"⟩
abbrev cX6_fallsBy : ByteArray := prog_8_method_62_code
def yX6_fallsBy : MethodName := ⟨RX6, "fallsBy", "(I)I"⟩
abbrev cX6_falls : ByteArray := prog_8_method_63_code
def yX6_falls : MethodName := ⟨RX6, "falls", "(I)I"⟩
abbrev cX6_bare : ByteArray := prog_8_method_64_code
def yX6_bare : MethodName := ⟨RX6, "bare", "()I"⟩
abbrev cX6_next : ByteArray := prog_8_method_65_code
def yX6_next : MethodName := ⟨RX6, "next", "()I"⟩
abbrev cX6_latest : ByteArray := prog_8_method_66_code
def yX6_latest : MethodName := ⟨RX6, "latest", "()I"⟩
abbrev cX6_lastBy : ByteArray := prog_8_method_67_code
def yX6_lastBy : MethodName := ⟨RX6, "lastBy", "(III)I"⟩
abbrev cX6_boughFor : ByteArray := prog_8_method_68_code
def yX6_boughFor : MethodName := ⟨RX6, "boughFor", "(I)I"⟩
abbrev cX6_kindFor : ByteArray := prog_8_method_69_code
def yX6_kindFor : MethodName := ⟨RX6, "kindFor", "(I)I"⟩
abbrev cX6_isShort : ByteArray := prog_8_method_70_code
def yX6_isShort : MethodName := ⟨RX6, "isShort", "(I)Z"⟩
abbrev cX6_hangsBehind : ByteArray := prog_8_method_71_code
def yX6_hangsBehind : MethodName := ⟨RX6, "hangsBehind", "(III)Z"⟩
abbrev cX6_holdFor : ByteArray := prog_8_method_72_code
def yX6_holdFor : MethodName := ⟨RX6, "holdFor", "(II)I"⟩
abbrev cX6_tiedFor : ByteArray := prog_8_method_73_code
def yX6_tiedFor : MethodName := ⟨RX6, "tiedFor", "(II)I"⟩
abbrev cX6_product : ByteArray := prog_8_method_74_code
def yX6_product : MethodName := ⟨RX6, "product", "(I)J"⟩
abbrev cX6_partOf : ByteArray := prog_8_method_75_code
def yX6_partOf : MethodName := ⟨RX6, "partOf", "(JJI)J"⟩
abbrev cX6_isTold : ByteArray := prog_8_method_76_code
def yX6_isTold : MethodName := ⟨RX6, "isTold", "(I)Z"⟩
abbrev cX6_fits : ByteArray := prog_8_method_77_code
def yX6_fits : MethodName := ⟨RX6, "fits", "(III)I"⟩
abbrev cX6_odds : ByteArray := prog_8_method_78_code
def yX6_odds : MethodName := ⟨RX6, "odds", "(III)J"⟩
abbrev cX6_hope : ByteArray := prog_8_method_79_code
def yX6_hope : MethodName := ⟨RX6, "hope", "(II)J"⟩
abbrev cX6_prove : ByteArray := prog_8_method_80_code
def yX6_prove : MethodName := ⟨RX6, "prove", "(II)I"⟩
abbrev cX6_isRow : ByteArray := prog_8_method_81_code
def yX6_isRow : MethodName := ⟨RX6, "isRow", "(II)Z"⟩
abbrev cX6_row : ByteArray := prog_8_method_82_code
def yX6_row : MethodName := ⟨RX6, "row", "(II)I"⟩
abbrev cX6_alterRow : ByteArray := prog_8_method_83_code
def yX6_alterRow : MethodName := ⟨RX6, "alterRow", "(III)I"⟩
abbrev cX6_judge : ByteArray := prog_8_method_84_code
def yX6_judge : MethodName := ⟨RX6, "judge", "(I)I"⟩
abbrev cX6_isSheet : ByteArray := prog_8_method_85_code
def yX6_isSheet : MethodName := ⟨RX6, "isSheet", "(I)Z"⟩
abbrev cX6_isShelf : ByteArray := prog_8_method_86_code
def yX6_isShelf : MethodName := ⟨RX6, "isShelf", "(I)Z"⟩
abbrev cX6_sheet : ByteArray := prog_8_method_87_code
def yX6_sheet : MethodName := ⟨RX6, "sheet", "(III)I"⟩
abbrev cX6_put : ByteArray := prog_8_method_88_code
def yX6_put : MethodName := ⟨RX6, "put", "(III)I"⟩
abbrev cX6_lacks : ByteArray := prog_8_method_89_code
def yX6_lacks : MethodName := ⟨RX6, "lacks", "(II)I"⟩
abbrev cX6_item : ByteArray := prog_8_method_90_code
def yX6_item : MethodName := ⟨RX6, "item", "(III)I"⟩
abbrev cX6_minds : ByteArray := prog_8_method_91_code
def yX6_minds : MethodName := ⟨RX6, "minds", "(IIII)I"⟩
abbrev cX6_shelf : ByteArray := prog_8_method_92_code
def yX6_shelf : MethodName := ⟨RX6, "shelf", "(III)I"⟩
abbrev cX6_heldOn : ByteArray := prog_8_method_93_code
def yX6_heldOn : MethodName := ⟨RX6, "heldOn", "(I)I"⟩
abbrev cX6_taken : ByteArray := prog_8_method_94_code
def yX6_taken : MethodName := ⟨RX6, "taken", "(II)I"⟩
abbrev cX6_runs : ByteArray := prog_8_method_95_code
def yX6_runs : MethodName := ⟨RX6, "runs", "(I)V"⟩
abbrev cX6_turnsPlain : ByteArray := prog_8_method_96_code
def yX6_turnsPlain : MethodName := ⟨RX6, "turnsPlain", "(I)I"⟩
abbrev cX6_turnsOfYellow : ByteArray := prog_8_method_97_code
def yX6_turnsOfYellow : MethodName := ⟨RX6, "turnsOfYellow", "(I)I"⟩
abbrev cX6_turns : ByteArray := prog_8_method_98_code
def yX6_turns : MethodName := ⟨RX6, "turns", "(I)I"⟩
abbrev cX6_namesPlain : ByteArray := prog_8_method_99_code
def yX6_namesPlain : MethodName := ⟨RX6, "namesPlain", "(I)I"⟩
abbrev cX6_names : ByteArray := prog_8_method_100_code
def yX6_names : MethodName := ⟨RX6, "names", "(I)I"⟩
abbrev cX6_partsPlain : ByteArray := prog_8_method_101_code
def yX6_partsPlain : MethodName := ⟨RX6, "partsPlain", "(I)I"⟩
abbrev cX6_parts : ByteArray := prog_8_method_102_code
def yX6_parts : MethodName := ⟨RX6, "parts", "(I)I"⟩
abbrev cX6_landsPlain : ByteArray := prog_8_method_103_code
def yX6_landsPlain : MethodName := ⟨RX6, "landsPlain", "(I)I"⟩
abbrev cX6_lands : ByteArray := prog_8_method_104_code
def yX6_lands : MethodName := ⟨RX6, "lands", "(I)I"⟩
abbrev cX6_act : ByteArray := prog_8_method_105_code
def yX6_act : MethodName := ⟨RX6, "act", "(III)I"⟩
abbrev cX6_trace : ByteArray := prog_8_method_106_code
def yX6_trace : MethodName := ⟨RX6, "trace", "(I)I"⟩
abbrev cX6_boughsInUse : ByteArray := prog_8_method_107_code
def yX6_boughsInUse : MethodName := ⟨RX6, "boughsInUse", "()I"⟩
abbrev cX6_many : ByteArray := prog_8_method_108_code
def yX6_many : MethodName := ⟨RX6, "many", "(I)I"⟩
abbrev cX6_keep : ByteArray := prog_8_method_109_code
def yX6_keep : MethodName := ⟨RX6, "keep", "()I"⟩
abbrev cX6_again : ByteArray := prog_8_method_110_code
def yX6_again : MethodName := ⟨RX6, "again", "()I"⟩
def RJ6 : String := "java/lang/Integer"
def TJ6 : u_T := fun k => match k with
  | _ => ("", "", "", false)
def tyJ6 : Nat → FieldType := fun k => match k with
  | _ => .int
abbrev wsJ60 : List Cond := u_ws RJ6 TJ6 0
theorem nmJ6 : ∀ a, a < 0 → ∀ b, b < 0 → a ≠ b → (TJ6 a).2.1 ≠ (TJ6 b).2.1 := by decide +kernel
theorem tyJ6_ok : ∀ k, k < 0 → parseFieldDescriptor (TJ6 k).2.2.1 = some (tyJ6 k) := by decide +kernel
abbrev cJ6_bitCount_0f7a4 : ByteArray := prog_9_method_49_code
def yJ6_bitCount_0f7a4 : MethodName := ⟨RJ6, "bitCount", "(I)I"⟩
def RJ9 : String := "java/lang/Math"
def TJ9 : u_T := fun k => match k with
  | _ => ("", "", "", false)
def tyJ9 : Nat → FieldType := fun k => match k with
  | _ => .int
abbrev wsJ90 : List Cond := u_ws RJ9 TJ9 0
theorem nmJ9 : ∀ a, a < 0 → ∀ b, b < 0 → a ≠ b → (TJ9 a).2.1 ≠ (TJ9 b).2.1 := by decide +kernel
theorem tyJ9_ok : ∀ k, k < 0 → parseFieldDescriptor (TJ9 k).2.2.1 = some (tyJ9 k) := by decide +kernel
abbrev cJ9_max_7cf53 : ByteArray := prog_10_method_65_code
def yJ9_max_7cf53 : MethodName := ⟨RJ9, "max", "(II)I"⟩
abbrev cJ9_min_7cf53 : ByteArray := prog_10_method_69_code
def yJ9_min_7cf53 : MethodName := ⟨RJ9, "min", "(II)I"⟩
def RJ0 : String := "java/lang/String"
def TJ0 : u_T := fun k => match k with
  | _ => ("", "", "", false)
def tyJ0 : Nat → FieldType := fun k => match k with
  | _ => .int
abbrev wsJ00 : List Cond := u_ws RJ0 TJ0 0
theorem nmJ0 : ∀ a, a < 0 → ∀ b, b < 0 → a ≠ b → (TJ0 a).2.1 ≠ (TJ0 b).2.1 := by decide +kernel
theorem tyJ0_ok : ∀ k, k < 0 → parseFieldDescriptor (TJ0 k).2.2.1 = some (tyJ0 k) := by decide +kernel
abbrev cJ0_length_8abf5 : ByteArray := prog_11_method_54_code
def yJ0_length_8abf5 : MethodName := ⟨RJ0, "length", "()I"⟩
abbrev cJ0_charAt_5068e : ByteArray := prog_11_method_56_code
def yJ0_charAt_5068e : MethodName := ⟨RJ0, "charAt", "(I)C"⟩
abbrev cJ0_coder_7d493 : ByteArray := prog_11_method_152_code
def yJ0_coder_7d493 : MethodName := ⟨RJ0, "coder", "()B"⟩
abbrev cJ0_isLatin1_aae02 : ByteArray := prog_11_method_154_code
def yJ0_isLatin1_aae02 : MethodName := ⟨RJ0, "isLatin1", "()Z"⟩
abbrev cJ0_checkIndex_df160 : ByteArray := prog_11_method_155_code
def yJ0_checkIndex_df160 : MethodName := ⟨RJ0, "checkIndex", "(II)V"⟩
def RJ1 : String := "java/lang/StringLatin1"
def TJ1 : u_T := fun k => match k with
  | _ => ("", "", "", false)
def tyJ1 : Nat → FieldType := fun k => match k with
  | _ => .int
abbrev wsJ10 : List Cond := u_ws RJ1 TJ1 0
theorem nmJ1 : ∀ a, a < 0 → ∀ b, b < 0 → a ≠ b → (TJ1 a).2.1 ≠ (TJ1 b).2.1 := by decide +kernel
theorem tyJ1_ok : ∀ k, k < 0 → parseFieldDescriptor (TJ1 k).2.2.1 = some (tyJ1 k) := by decide +kernel
abbrev cJ1_charAt_3b067 : ByteArray := prog_12_method_2_code
def yJ1_charAt_3b067 : MethodName := ⟨RJ1, "charAt", "([BI)C"⟩
def RJ2 : String := "java/lang/StringUTF16"
def TJ2 : u_T := fun k => match k with
  | _ => ("", "", "", false)
def tyJ2 : Nat → FieldType := fun k => match k with
  | _ => .int
abbrev wsJ20 : List Cond := u_ws RJ2 TJ2 0
theorem nmJ2 : ∀ a, a < 0 → ∀ b, b < 0 → a ≠ b → (TJ2 a).2.1 ≠ (TJ2 b).2.1 := by decide +kernel
theorem tyJ2_ok : ∀ k, k < 0 → parseFieldDescriptor (TJ2 k).2.2.1 = some (tyJ2 k) := by decide +kernel
abbrev cJ2_getChar_3b067 : ByteArray := prog_13_method_5_code
def yJ2_getChar_3b067 : MethodName := ⟨RJ2, "getChar", "([BI)C"⟩
abbrev cJ2_length_9d52b : ByteArray := prog_13_method_6_code
def yJ2_length_9d52b : MethodName := ⟨RJ2, "length", "([B)I"⟩
abbrev cJ2_charAt_3b067 : ByteArray := prog_13_method_83_code
def yJ2_charAt_3b067 : MethodName := ⟨RJ2, "charAt", "([BI)C"⟩
abbrev cJ2_checkIndex_2214a : ByteArray := prog_13_method_91_code
def yJ2_checkIndex_2214a : MethodName := ⟨RJ2, "checkIndex", "(I[B)V"⟩
def RJ10 : String := "java/lang/System"
def TJ10 : u_T := fun k => match k with
  | _ => ("", "", "", false)
def tyJ10 : Nat → FieldType := fun k => match k with
  | _ => .int
abbrev wsJ100 : List Cond := u_ws RJ10 TJ10 0
theorem nmJ10 : ∀ a, a < 0 → ∀ b, b < 0 → a ≠ b → (TJ10 a).2.1 ≠ (TJ10 b).2.1 := by decide +kernel
theorem tyJ10_ok : ∀ k, k < 0 → parseFieldDescriptor (TJ10 k).2.2.1 = some (tyJ10 k) := by decide +kernel
def RJ3 : String := "jdk/internal/util/Preconditions"
def TJ3 : u_T := fun k => match k with
  | _ => ("", "", "", false)
def tyJ3 : Nat → FieldType := fun k => match k with
  | _ => .int
abbrev wsJ30 : List Cond := u_ws RJ3 TJ3 0
theorem nmJ3 : ∀ a, a < 0 → ∀ b, b < 0 → a ≠ b → (TJ3 a).2.1 ≠ (TJ3 b).2.1 := by decide +kernel
theorem tyJ3_ok : ∀ k, k < 0 → parseFieldDescriptor (TJ3 k).2.2.1 = some (tyJ3 k) := by decide +kernel
abbrev cJ3_checkIndex_8e157 : ByteArray := prog_15_method_11_code
def yJ3_checkIndex_8e157 : MethodName := ⟨RJ3, "checkIndex", "(IILjava/util/function/BiFunction;)I"⟩
def RL : String := "LeafFallsLaw"
abbrev cL_law : ByteArray := code
def yL_law : MethodName := ⟨RL, "law", "([I)Z"⟩
abbrev vwCl : List vw_C := [(RX0, TX0, 6), (RX1, TX1, 3), (RX2, TX2, 3), (RX3, TX3, 6), (RX4, TX4, 12), (RX5, TX5, 10), (RX6, TX6, 27)]
end
section
/-! ===== A small machine over indices: values, worlds, instructions (all that follows is said in its words) ===== -/
/-- a value: an int, a long, a reference to the world's cell of that index (or null), a thing of outside (0: not set, 1: the script, 2: a static of the JDK's, 3 + 2 i: a String constant, 4 + 2 i: its bytes) -/
abbrev ma_V : Type := Int32 ⊕ Int64 ⊕ Option Nat ⊕ Nat
abbrev vI (x : Int32) : ma_V := Sum.inl x
abbrev vL (x : Int64) : ma_V := Sum.inr (Sum.inl x)
abbrev vQ (x : Option Nat) : ma_V := Sum.inr (Sum.inr (Sum.inl x))
abbrev vR (k : Nat) : ma_V := Sum.inr (Sum.inr (Sum.inl (some k)))
abbrev vS (k : Nat) : ma_V := Sum.inr (Sum.inr (Sum.inr k))
/-- a cell's shape: an object of the class of that number, or an array of a kind (0 int, 1 byte, 2 long, 3 Sheet, 4 Shelf) and a length -/
abbrev ma_Sh : Type := Nat ⊕ Nat × Nat
/-- the world: shapes; int fields, reference fields, ints of arrays, longs of arrays, references of arrays -/
abbrev ma_W : Type := List ma_Sh × (Nat → Nat → Int32) × (Nat → Nat → Option Nat) × (Nat → Nat → Int32) × (Nat → Nat → Int64) × (Nat → Nat → Option Nat)
def ma_sh (w : ma_W) : List ma_Sh := w.1
def ma_fi (w : ma_W) : Nat → Nat → Int32 := w.2.1
def ma_fr (w : ma_W) : Nat → Nat → Option Nat := w.2.2.1
def ma_ai (w : ma_W) : Nat → Nat → Int32 := w.2.2.2.1
def ma_al (w : ma_W) : Nat → Nat → Int64 := w.2.2.2.2.1
def ma_ar (w : ma_W) : Nat → Nat → Option Nat := w.2.2.2.2.2
def ma_u2 {α : Type} (f : Nat → Nat → α) (a b : Nat) (v : α) : Nat → Nat → α := fun i j => if i = a ∧ j = b then v else f i j
def ma_u1 {α : Type} (f : Nat → Nat → α) (a : Nat) (g : Nat → α) : Nat → Nat → α := fun i => if i = a then g else f i
def pu_fi (w : ma_W) (o k : Nat) (v : Int32) : ma_W := (w.1, ma_u2 w.2.1 o k v, w.2.2)
def pu_fr (w : ma_W) (o k : Nat) (v : Option Nat) : ma_W := (w.1, w.2.1, ma_u2 w.2.2.1 o k v, w.2.2.2)
def pu_ai (w : ma_W) (o k : Nat) (v : Int32) : ma_W := (w.1, w.2.1, w.2.2.1, ma_u2 w.2.2.2.1 o k v, w.2.2.2.2)
def pu_al (w : ma_W) (o k : Nat) (v : Int64) : ma_W := (w.1, w.2.1, w.2.2.1, w.2.2.2.1, ma_u2 w.2.2.2.2.1 o k v, w.2.2.2.2.2)
def pu_ar (w : ma_W) (o k : Nat) (v : Option Nat) : ma_W := (w.1, w.2.1, w.2.2.1, w.2.2.2.1, w.2.2.2.2.1, ma_u2 w.2.2.2.2.2 o k v)
def pu_ax (w : ma_W) (o : Nat) (g : Nat → Int32) : ma_W := (w.1, w.2.1, w.2.2.1, ma_u1 w.2.2.2.1 o g, w.2.2.2.2)
def ma_add (w : ma_W) (x : ma_Sh) : ma_W := (w.1 ++ [x], ma_u1 w.2.1 w.1.length (fun _ => 0), ma_u1 w.2.2.1 w.1.length (fun _ => none), ma_u1 w.2.2.2.1 w.1.length (fun _ => 0), ma_u1 w.2.2.2.2.1 w.1.length (fun _ => 0), ma_u1 w.2.2.2.2.2 w.1.length (fun _ => none))
/-- classes by number, their fields -/
def ma_nf (ci : Nat) : Nat := match ci with | 0 => 6 | 1 => 3 | 2 => 3 | 3 => 6 | 4 => 12 | 5 => 10 | 6 => 27 | _ => 0
def ma_ty (ci : Nat) : Nat → FieldType := match ci with | 0 => tyX0 | 1 => tyX1 | 2 => tyX2 | 3 => tyX3 | 4 => tyX4 | 5 => tyX5 | _ => tyX6
def ma_tx (ci : Nat) : u_T := match ci with | 0 => TX0 | 1 => TX1 | 2 => TX2 | 3 => TX3 | 4 => TX4 | 5 => TX5 | _ => TX6
def ma_rx (ci : Nat) : String := match ci with | 0 => RX0 | 1 => RX1 | 2 => RX2 | 3 => RX3 | 4 => RX4 | 5 => RX5 | _ => RX6
def ma_isr (t : FieldType) : Bool := match t with | .object _ => true | .array _ => true | _ => false
/-- the slots that a cell takes -/
def ma_sz (x : ma_Sh) : Nat := match x with | .inl ci => ma_nf ci | .inr q => q.2
def ma_szs (l : List ma_Sh) : Nat := (l.map ma_sz).sum
/-- String constants: lengths and bytes -/
def ma_tx1 : List (List Nat) := [[119, 105, 110, 100], [99, 111, 108, 100], [119, 101, 116], [103, 97, 108, 101], [114, 101, 100], [121, 101, 108, 108, 111, 119], [115, 99, 97, 114, 108, 101, 116], [103, 111, 108, 100], [101, 118, 101, 114, 103, 114, 101, 101, 110], [108, 101, 97, 102], [115, 119, 97, 121], [105, 115], [111, 110], [104, 111, 108, 100], [115, 105, 103, 110]]
def ma_len (i : Nat) : Nat := (ma_tx1.getD i []).length
def ma_chr (i j : Nat) : Int32 := Int32.ofNat ((ma_tx1.getD i []).getD j 0)
def ma_in (i : Int32) (n : Nat) : Bool := !decide (i < 0) && decide (i.toNatClampNeg < n)
/-- locals, stack, world -/
abbrev ma_C : Type := List ma_V × List ma_V × ma_W
abbrev ma_F : Type := ma_C → Option (Nat × ma_C)
/-- an instruction: a step; a call (kind, class of the receiver, method, how many values it takes, what comes next); a return (kind) -/
abbrev ma_I : Type := ma_F ⊕ (Nat × Nat × Nat × Nat × Nat) ⊕ Nat
def ma_kill (ls : List ma_V) (k : Nat) : List ma_V := match k with
  | 0 => ls
  | j + 1 => match ls[j]? with
    | some (.inr (.inl _)) => ls.set j (vS 0)
    | _ => ls
def i_ild (k n : Nat) : ma_F := fun c => match c.1[k]? with
  | some (.inl x) => some (n, c.1, vI x :: c.2.1, c.2.2)
  | _ => none
def i_lld (k n : Nat) : ma_F := fun c => match c.1[k]? with
  | some (.inr (.inl x)) => some (n, c.1, vL x :: c.2.1, c.2.2)
  | _ => none
def i_ald (k n : Nat) : ma_F := fun c => match c.1[k]? with
  | some (.inr (.inr (.inl (some a)))) => some (n, c.1, vR a :: c.2.1, c.2.2)
  | some (.inr (.inr (.inr a))) => if a = 1 ∨ 3 ≤ a then some (n, c.1, vS a :: c.2.1, c.2.2) else none
  | _ => none
def i_ist (k n : Nat) : ma_F := fun c => match c.2.1 with
  | .inl x :: st => if k < c.1.length then some (n, (ma_kill c.1 k).set k (vI x), st, c.2.2) else none
  | _ => none
def i_lst (k n : Nat) : ma_F := fun c => match c.2.1 with
  | .inr (.inl x) :: st => if k + 1 < c.1.length then some (n, ((ma_kill c.1 k).set k (vL x)).set (k + 1) (vS 0), st, c.2.2) else none
  | _ => none
def i_ast (k n : Nat) : ma_F := fun c => match c.2.1 with
  | .inr (.inr (.inl (some a))) :: st => if k < c.1.length then some (n, (ma_kill c.1 k).set k (vR a), st, c.2.2) else none
  | .inr (.inr (.inr a)) :: st => if k < c.1.length ∧ (a = 1 ∨ 3 ≤ a) then some (n, (ma_kill c.1 k).set k (vS a), st, c.2.2) else none
  | _ => none
def i_inc (k : Nat) (d : Int) (n : Nat) : ma_F := fun c => match c.1[k]? with
  | some (.inl x) => some (n, (ma_kill c.1 k).set k (vI (x + Int32.ofInt d)), c.2.1, c.2.2)
  | _ => none
def i_con (v : Int32) (n : Nat) : ma_F := fun c => some (n, c.1, vI v :: c.2.1, c.2.2)
def i_lcn (v : Int64) (n : Nat) : ma_F := fun c => some (n, c.1, vL v :: c.2.1, c.2.2)
def i_spc (k : Nat) (n : Nat) : ma_F := fun c => some (n, c.1, vS k :: c.2.1, c.2.2)
def i_bin (f : Int32 → Int32 → Int32) (n : Nat) : ma_F := fun c => match c.2.1 with
  | .inl y :: .inl x :: st => some (n, c.1, vI (f x y) :: st, c.2.2)
  | _ => none
def i_dvi (f : Int32 → Int32 → Int32) (n : Nat) : ma_F := fun c => match c.2.1 with
  | .inl y :: .inl x :: st => if y = 0 then none else some (n, c.1, vI (f x y) :: st, c.2.2)
  | _ => none
def i_lbn (f : Int64 → Int64 → Int64) (n : Nat) : ma_F := fun c => match c.2.1 with
  | .inr (.inl y) :: .inr (.inl x) :: st => some (n, c.1, vL (f x y) :: st, c.2.2)
  | _ => none
def i_ldv (f : Int64 → Int64 → Int64) (n : Nat) : ma_F := fun c => match c.2.1 with
  | .inr (.inl y) :: .inr (.inl x) :: st => if y = 0 then none else some (n, c.1, vL (f x y) :: st, c.2.2)
  | _ => none
def i_lsh (f : Int64 → Int32 → Int64) (n : Nat) : ma_F := fun c => match c.2.1 with
  | .inl y :: .inr (.inl x) :: st => some (n, c.1, vL (f x y) :: st, c.2.2)
  | _ => none
def i_lcp (n : Nat) : ma_F := fun c => match c.2.1 with
  | .inr (.inl y) :: .inr (.inl x) :: st => some (n, c.1, vI (lg_cmp x y) :: st, c.2.2)
  | _ => none
def i_una (f : Int32 → Int32) (n : Nat) : ma_F := fun c => match c.2.1 with
  | .inl x :: st => some (n, c.1, vI (f x) :: st, c.2.2)
  | _ => none
def i_i2l (n : Nat) : ma_F := fun c => match c.2.1 with
  | .inl x :: st => some (n, c.1, vL x.toInt64 :: st, c.2.2)
  | _ => none
def i_l2i (n : Nat) : ma_F := fun c => match c.2.1 with
  | .inr (.inl x) :: st => some (n, c.1, vI x.toInt32 :: st, c.2.2)
  | _ => none
def ma_c1 (v : ma_V) : Bool := match v with
  | .inl _ => true
  | .inr (.inl _) => false
  | .inr (.inr (.inl (some _))) => true
  | .inr (.inr (.inl none)) => false
  | .inr (.inr (.inr _)) => false
def i_dup (n : Nat) : ma_F := fun c => match c.2.1 with
  | v :: st => if ma_c1 v then some (n, c.1, v :: v :: st, c.2.2) else none
  | _ => none
def i_pop (n : Nat) : ma_F := fun c => match c.2.1 with
  | v :: st => if ma_c1 v then some (n, c.1, st, c.2.2) else none
  | _ => none
def i_du2 (n : Nat) : ma_F := fun c => match c.2.1 with
  | v :: u :: st => if ma_c1 v && ma_c1 u then some (n, c.1, v :: u :: v :: u :: st, c.2.2) else none
  | _ => none
def i_if2 (p : Int32 → Int32 → Bool) (t n : Nat) : ma_F := fun c => match c.2.1 with
  | .inl y :: .inl x :: st => some (if p x y then t else n, c.1, st, c.2.2)
  | _ => none
def i_if1 (p : Int32 → Bool) (t n : Nat) : ma_F := fun c => match c.2.1 with
  | .inl x :: st => some (if p x then t else n, c.1, st, c.2.2)
  | _ => none
def i_gto (t : Nat) : ma_F := fun c => some (t, c.1, c.2.1, c.2.2)
def i_swi (g : Int32 → Option Nat) : ma_F := fun c => match c.2.1 with
  | .inl x :: st => match g x with
    | some t => some (t, c.1, st, c.2.2)
    | none => none
  | _ => none
def i_gti (ci k n : Nat) : ma_F := fun c => match c.2.1 with
  | .inr (.inr (.inl (some o))) :: st => if (ma_sh c.2.2)[o]? = some (.inl ci) then some (n, c.1, vI (ma_fi c.2.2 o k) :: st, c.2.2) else none
  | _ => none
def i_gtr (ci k n : Nat) : ma_F := fun c => match c.2.1 with
  | .inr (.inr (.inl (some o))) :: st => if (ma_sh c.2.2)[o]? = some (.inl ci) then some (n, c.1, vQ (ma_fr c.2.2 o k) :: st, c.2.2) else none
  | _ => none
/-- what a field of ints of that type can hold -/
def ma_nar (t : FieldType) (x : Int32) : Bool := match t with
  | .int => true
  | t => decide (vp_nar t x = x) && fits t (.int x)
def i_pti (ci k n : Nat) : ma_F := fun c => match c.2.1 with
  | .inl x :: .inr (.inr (.inl (some o))) :: st => if (ma_sh c.2.2)[o]? = some (.inl ci) ∧ ma_nar (ma_ty ci k) x = true then some (n, c.1, st, pu_fi c.2.2 o k x) else none
  | _ => none
def i_ptr (ci k n : Nat) : ma_F := fun c => match c.2.1 with
  | .inr (.inr (.inl (some a))) :: .inr (.inr (.inl (some o))) :: st => if (ma_sh c.2.2)[o]? = some (.inl ci) then some (n, c.1, st, pu_fr c.2.2 o k (some a)) else none
  | _ => none
/-- is it an array of that kind, and the place in it? -/
def ma_ok (w : ma_W) (a t : Nat) (i : Int32) : Bool := match (ma_sh w)[a]? with
  | some (.inr q) => decide (q.1 = t) && ma_in i q.2
  | _ => false
def i_iald (n : Nat) : ma_F := fun c => match c.2.1 with
  | .inl i :: .inr (.inr (.inl (some a))) :: st => if ma_ok c.2.2 a 0 i then some (n, c.1, vI (ma_ai c.2.2 a i.toNatClampNeg) :: st, c.2.2) else none
  | _ => none
def i_bald (n : Nat) : ma_F := fun c => match c.2.1 with
  | .inl i :: .inr (.inr (.inl (some a))) :: st => if ma_ok c.2.2 a 1 i then some (n, c.1, vI (ma_ai c.2.2 a i.toNatClampNeg) :: st, c.2.2) else none
  | .inl i :: .inr (.inr (.inr a)) :: st => if 3 ≤ a ∧ a < 33 ∧ a % 2 = 0 ∧ ma_in i (ma_len ((a - 4) / 2)) = true then some (n, c.1, vI (ma_chr ((a - 4) / 2) i.toNatClampNeg) :: st, c.2.2) else none
  | _ => none
def i_lald (n : Nat) : ma_F := fun c => match c.2.1 with
  | .inl i :: .inr (.inr (.inl (some a))) :: st => if ma_ok c.2.2 a 2 i then some (n, c.1, vL (ma_al c.2.2 a i.toNatClampNeg) :: st, c.2.2) else none
  | _ => none
def i_aald (n : Nat) : ma_F := fun c => match c.2.1 with
  | .inl i :: .inr (.inr (.inl (some a))) :: st => if ma_ok c.2.2 a 3 i || ma_ok c.2.2 a 4 i then some (n, c.1, vQ (ma_ar c.2.2 a i.toNatClampNeg) :: st, c.2.2) else none
  | _ => none
def i_iast (n : Nat) : ma_F := fun c => match c.2.1 with
  | .inl x :: .inl i :: .inr (.inr (.inl (some a))) :: st => if ma_ok c.2.2 a 0 i then some (n, c.1, st, pu_ai c.2.2 a i.toNatClampNeg x) else none
  | _ => none
def i_bast (n : Nat) : ma_F := fun c => match c.2.1 with
  | .inl x :: .inl i :: .inr (.inr (.inl (some a))) :: st => if ma_ok c.2.2 a 1 i then some (n, c.1, st, pu_ai c.2.2 a i.toNatClampNeg (vp_nar .byte x)) else none
  | _ => none
def i_last (n : Nat) : ma_F := fun c => match c.2.1 with
  | .inr (.inl x) :: .inl i :: .inr (.inr (.inl (some a))) :: st => if ma_ok c.2.2 a 2 i then some (n, c.1, st, pu_al c.2.2 a i.toNatClampNeg x) else none
  | _ => none
/-- the class whose objects an array of references of that kind holds -/
def ma_el (t : Nat) : Nat := if t = 3 then 1 else 2
def i_aast (n : Nat) : ma_F := fun c => match c.2.1 with
  | .inr (.inr (.inl (some v))) :: .inl i :: .inr (.inr (.inl (some a))) :: st => if (ma_ok c.2.2 a 3 i && decide ((ma_sh c.2.2)[v]? = some (.inl 1))) || (ma_ok c.2.2 a 4 i && decide ((ma_sh c.2.2)[v]? = some (.inl 2))) then some (n, c.1, st, pu_ar c.2.2 a i.toNatClampNeg (some v)) else none
  | _ => none
def i_alen (n : Nat) : ma_F := fun c => match c.2.1 with
  | .inr (.inr (.inr a)) :: st => if 3 ≤ a ∧ a < 33 ∧ a % 2 = 0 then some (n, c.1, vI (Int32.ofNat (ma_len ((a - 4) / 2))) :: st, c.2.2) else none
  | _ => none
/-- the script's own: xs, L -/
def i_sld (xs : Nat → Int32) (L n : Nat) : ma_F := fun c => match c.2.1 with
  | .inl i :: .inr (.inr (.inr 1)) :: st => if ma_in i L then some (n, c.1, vI (xs i.toNatClampNeg) :: st, c.2.2) else none
  | _ => none
def i_sln (L n : Nat) : ma_F := fun c => match c.2.1 with
  | .inr (.inr (.inr 1)) :: st => some (n, c.1, vI (Int32.ofNat L) :: st, c.2.2)
  | _ => none
def i_or (f g : ma_F) : ma_F := fun c => match f c with
  | some r => some r
  | none => g c
/-- a field of a String constant: k 0 its bytes, 1 its coder -/
def i_gts (k n : Nat) : ma_F := fun c => match c.2.1 with
  | .inr (.inr (.inr a)) :: st => if 3 ≤ a ∧ a < 33 ∧ a % 2 = 1 then some (n, c.1, (if k = 0 then vS (a + 1) else vI 0) :: st, c.2.2) else none
  | _ => none
def i_cpy (n : Nat) : ma_F := fun c => match c.2.1 with
  | .inl m :: .inl dp :: .inr (.inr (.inl (some a))) :: .inl sp :: .inr (.inr (.inl (some a0))) :: st => match (ma_sh c.2.2)[a]?, (ma_sh c.2.2)[a0]? with
    | some (.inr q), some (.inr q0) => if q.1 = 0 ∧ q0.1 = 0 ∧ ¬ sp < 0 ∧ ¬ dp < 0 ∧ ¬ m < 0 ∧ sp.toNatClampNeg + m.toNatClampNeg ≤ q0.2 ∧ dp.toNatClampNeg + m.toNatClampNeg ≤ q.2 then some (n, c.1, st, pu_ax c.2.2 a (va_cpy (ma_ai c.2.2 a0) (ma_ai c.2.2 a) sp.toNatClampNeg dp.toNatClampNeg m.toNatClampNeg)) else none
    | _, _ => none
  | _ => none
def i_oin (n : Nat) : ma_F := fun c => match c.2.1 with
  | .inr (.inr (.inl (some _))) :: st => some (n, c.1, st, c.2.2)
  | _ => none
def i_new (ci n : Nat) : ma_F := fun c => some (n, c.1, vR (ma_sh c.2.2).length :: c.2.1, ma_add c.2.2 (.inl ci))
def i_nwa (t n : Nat) : ma_F := fun c => match c.2.1 with
  | .inl x :: st => if ¬ x < 0 ∧ x.toNatClampNeg ≤ 60000 then some (n, c.1, vR (ma_sh c.2.2).length :: st, ma_add c.2.2 (.inr (t, x.toNatClampNeg))) else none
  | _ => none
def ma_cmp (k : Jvm.ClassFile.Cond) (x y : Int32) : Bool := match k with
  | .eq => decide (x = y)
  | .ne => decide (¬ x = y)
  | .lt => decide (x < y)
  | .ge => decide (y ≤ x)
  | .gt => decide (y < x)
  | .le => decide (x ≤ y)
def ma_cm0 (k : Jvm.ClassFile.Cond) (x : Int32) : Bool := match k with
  | .eq => decide (x = 0)
  | .ne => decide (¬ x = 0)
  | .lt => decide (x < 0)
  | .ge => decide (0 ≤ x)
  | .gt => decide (0 < x)
  | .le => decide (x ≤ 0)
def ma_tgt (pc : Nat) (off : Int) : Nat := ((pc : Int) + off).toNat
end
section
/-! ===== the classes' pools: fields, methods, classes, constants by index; the methods' table (laid by a program out of the Statement's tables) ===== -/
def ma_on (own : Nat) : String := match own with
  | 0 => RX0
  | 1 => RX1
  | 2 => RX2
  | 3 => RX3
  | 4 => RX4
  | 5 => RX5
  | 6 => RX6
  | 7 => RL
  | 10 => RJ0
  | 11 => RJ1
  | 12 => RJ2
  | 13 => RJ3
  | 16 => RJ6
  | 19 => RJ9
  | _ => ""
def ma_lk {α : Type} : List (Nat × α) → Nat → Option α
  | [], _ => none
  | q :: l, i => if i = q.1 then some q.2 else ma_lk l i
/-- fields: class, slot, word -/
def ma_fls (own : Nat) : List (Nat × Nat × Nat × Nat) := match own with
  | 0 => [(9, 0, 3, 130), (15, 0, 5, 134), (32, 0, 0, 124), (44, 0, 1, 126), (47, 0, 2, 128), (50, 0, 4, 132)]
  | 1 => [(9, 1, 0, 153), (15, 1, 1, 155), (19, 1, 2, 158)]
  | 2 => [(9, 2, 0, 174), (15, 2, 1, 176), (24, 1, 2, 159), (27, 1, 1, 156), (30, 2, 2, 178)]
  | 3 => [(9, 3, 0, 92), (15, 3, 4, 98), (19, 3, 5, 99), (25, 3, 2, 96), (49, 4, 7, 50), (57, 3, 3, 97), (71, 4, 0, 34), (80, 4, 1, 37), (133, 3, 1, 95)]
  | 4 => [(9, 4, 0, 33), (15, 4, 1, 36), (18, 4, 2, 39), (21, 4, 3, 41), (24, 4, 4, 43), (27, 4, 5, 45), (30, 4, 6, 47), (33, 4, 10, 56), (40, 4, 7, 49), (43, 4, 8, 52), (46, 4, 9, 54), (49, 4, 11, 58)]
  | 5 => [(10, 5, 0, 187), (16, 5, 1, 188), (19, 5, 2, 189), (25, 5, 4, 191), (29, 5, 5, 192), (35, 5, 7, 194), (41, 5, 8, 195), (48, 5, 9, 196), (58, 3, 1, 94), (62, 3, 0, 93), (69, 4, 10, 57), (80, 5, 6, 193), (83, 4, 7, 51), (90, 4, 0, 35), (101, 4, 2, 40), (104, 4, 3, 42), (107, 4, 4, 44), (110, 4, 5, 46), (116, 4, 6, 48), (136, 4, 1, 38), (148, 4, 8, 53), (154, 4, 9, 55), (184, 4, 11, 59), (214, 1, 1, 157), (217, 1, 2, 160), (218, 1, 0, 154), (240, 2, 0, 175), (247, 2, 2, 179), (248, 2, 1, 177), (254, 0, 4, 133), (257, 0, 0, 125), (260, 0, 1, 127), (263, 0, 2, 129), (269, 0, 3, 131), (275, 5, 3, 190)]
  | 6 => [(7, 6, 0, 737), (13, 6, 1, 738), (16, 6, 2, 739), (19, 6, 3, 740), (22, 6, 5, 742), (25, 6, 12, 749), (28, 6, 13, 750), (31, 6, 15, 752), (34, 6, 16, 753), (37, 6, 17, 754), (40, 6, 18, 755), (43, 6, 19, 756), (46, 6, 20, 757), (49, 6, 21, 758), (61, 6, 6, 743), (67, 6, 9, 746), (70, 6, 8, 745), (84, 6, 7, 744), (87, 6, 10, 747), (90, 6, 11, 748), (145, 6, 14, 751), (279, 6, 22, 759), (285, 6, 24, 761), (291, 6, 23, 760), (297, 6, 25, 762), (306, 6, 26, 763), (327, 6, 4, 741)]
  | _ => []
/-- methods: kind of call, class of the receiver, method, values, words -/
def ma_mls (own : Nat) : List (Nat × Nat × Nat × Nat × Nat × Nat × Nat × Nat) := match own with
  | 0 => [(3, 9, 0, 0, 1, 123, 0, 0), (19, 1, 0, 2, 2, 686, 688, 2022), (23, 1, 0, 4, 2, 695, 697, 2024), (26, 1, 0, 5, 2, 699, 701, 2025), (29, 1, 0, 6, 2, 703, 705, 2026), (36, 1, 0, 3, 3, 690, 692, 2023), (40, 4, 0, 106, 2, 694, 676, 0)]
  | 1 => [(3, 9, 0, 0, 1, 152, 0, 0)]
  | 2 => [(3, 9, 0, 0, 1, 173, 0, 0), (18, 1, 1, 8, 1, 666, 582, 583)]
  | 3 => [(3, 9, 0, 0, 1, 91, 0, 0), (22, 1, 3, 16, 1, 234, 236, 2000), (28, 1, 3, 18, 1, 242, 244, 2002), (32, 1, 3, 20, 1, 302, 304, 2004), (35, 1, 3, 22, 3, 315, 317, 2005), (41, 1, 3, 19, 2, 247, 249, 2003), (45, 1, 3, 26, 2, 335, 337, 2009), (54, 1, 3, 28, 3, 344, 346, 2011), (60, 4, 0, 58, 1, 319, 320, 0), (64, 1, 3, 23, 2, 322, 324, 2006), (67, 1, 3, 25, 1, 330, 332, 2008), (77, 1, 3, 27, 2, 340, 342, 2010), (87, 1, 3, 29, 4, 350, 352, 2012), (93, 1, 4, 32, 5, 355, 356, 357), (97, 1, 3, 24, 1, 326, 328, 2007), (100, 2, 0, 221, 1, 251, 252, 253), (105, 2, 0, 223, 2, 261, 262, 263), (117, 0, 0, 21, 1, 306, 307, 0), (135, 1, 3, 17, 2, 238, 240, 2001)]
  | 4 => [(3, 9, 0, 0, 1, 28, 0, 0), (37, 1, 4, 31, 1, 29, 30, 31), (52, 8, 0, 0, 5, 363, 0, 0), (58, 1, 4, 35, 2, 400, 389, 390), (62, 1, 4, 37, 2, 396, 397, 398), (66, 0, 0, 232, 1, 401, 402, 0), (71, 1, 4, 36, 2, 415, 393, 394), (74, 1, 4, 43, 2, 461, 463, 2013), (77, 1, 4, 38, 2, 465, 412, 413), (80, 4, 0, 71, 1, 466, 467, 0), (83, 1, 4, 44, 1, 475, 477, 2014), (87, 1, 4, 40, 2, 480, 437, 438), (91, 1, 4, 39, 2, 479, 417, 418), (94, 1, 4, 46, 1, 493, 495, 2015), (97, 1, 4, 42, 1, 498, 458, 459), (101, 1, 4, 47, 2, 527, 508, 509)]
  | 5 => [(1, 9, 0, 0, 1, 20, 0, 0), (9, 3, 0, 30, 1, 25, 26, 0), (24, 5, 0, 14, 1, 88, 89, 0), (47, 5, 0, 0, 1, 120, 121, 0), (52, 5, 0, 7, 1, 149, 150, 0), (53, 5, 0, 11, 1, 170, 171, 0), (54, 0, 0, 56, 3, 222, 223, 0), (66, 1, 4, 31, 1, 229, 30, 31), (72, 1, 3, 15, 2, 230, 231, 232), (76, 1, 4, 33, 2, 359, 360, 361), (86, 0, 0, 58, 1, 370, 320, 0), (93, 1, 4, 32, 5, 379, 356, 357), (97, 1, 4, 34, 2, 384, 385, 386), (113, 1, 4, 35, 2, 388, 389, 390), (119, 1, 4, 36, 2, 392, 393, 394), (122, 1, 4, 38, 2, 411, 412, 413), (125, 1, 4, 39, 2, 416, 417, 418), (128, 1, 4, 40, 2, 436, 437, 438), (132, 1, 4, 41, 1, 440, 441, 442), (139, 1, 4, 37, 2, 448, 397, 398), (142, 1, 4, 42, 1, 457, 458, 459), (145, 1, 4, 45, 1, 489, 490, 491), (151, 1, 4, 47, 2, 507, 508, 509), (157, 1, 4, 48, 1, 515, 516, 517), (160, 1, 4, 49, 1, 519, 520, 521), (163, 1, 4, 50, 1, 523, 524, 525), (166, 1, 4, 51, 1, 528, 529, 530), (169, 1, 4, 52, 1, 532, 533, 534), (172, 1, 5, 78, 2, 540, 542, 2016), (175, 1, 5, 85, 3, 568, 570, 2017), (179, 0, 0, 232, 1, 576, 402, 0), (187, 1, 1, 8, 1, 581, 582, 583), (191, 1, 5, 88, 4, 585, 587, 2018), (197, 0, 0, 90, 2, 594, 595, 0), (203, 0, 0, 91, 3, 598, 599, 0), (207, 1, 5, 94, 3, 609, 611, 2019), (211, 1, 5, 96, 3, 617, 619, 2020), (222, 0, 0, 71, 1, 633, 467, 0), (225, 1, 1, 9, 3, 638, 639, 640), (229, 1, 1, 10, 2, 646, 647, 648), (233, 1, 2, 12, 2, 658, 659, 660), (236, 1, 2, 13, 2, 662, 663, 664), (243, 1, 5, 105, 2, 671, 673, 2021), (251, 0, 0, 106, 2, 675, 676, 0), (266, 1, 0, 1, 3, 682, 683, 684), (272, 1, 4, 53, 1, 715, 716, 717), (279, 7, 0, 0, 2, 469, 0, 0), (284, 6, 0, 0, 2, 472, 0, 0)]
  | 6 => [(1, 9, 0, 0, 1, 732, 0, 0), (52, 1, 6, 113, 1, 733, 735, 2027), (57, 0, 0, 115, 3, 824, 825, 0), (73, 1, 6, 119, 2, 839, 841, 2029), (77, 0, 0, 120, 1, 843, 844, 0), (81, 0, 0, 121, 1, 846, 847, 0), (94, 1, 6, 118, 1, 835, 837, 2028), (97, 1, 6, 125, 6, 861, 863, 2033), (101, 1, 6, 124, 5, 857, 859, 2032), (105, 1, 6, 126, 5, 865, 867, 2034), (108, 1, 6, 129, 2, 877, 879, 2037), (112, 1, 6, 131, 3, 885, 887, 2039), (116, 1, 6, 130, 3, 881, 883, 2038), (120, 1, 6, 132, 4, 889, 891, 2040), (124, 1, 6, 123, 1, 853, 855, 2031), (128, 1, 6, 127, 1, 869, 871, 2035), (131, 1, 6, 128, 2, 873, 875, 2036), (135, 1, 6, 133, 1, 893, 895, 2041), (138, 0, 0, 117, 2, 832, 833, 0), (142, 1, 6, 122, 1, 849, 851, 2030), (154, 1, 6, 135, 3, 904, 906, 2042), (160, 0, 0, 138, 1, 917, 918, 0), (163, 1, 6, 142, 3, 933, 935, 2045), (166, 1, 6, 143, 2, 937, 939, 2046), (169, 0, 0, 144, 1, 941, 942, 0), (172, 1, 6, 141, 2, 929, 931, 2044), (175, 1, 6, 140, 2, 924, 926, 2043), (180, 1, 6, 146, 2, 948, 950, 2047), (183, 1, 6, 147, 2, 952, 954, 2048), (186, 1, 6, 152, 2, 972, 974, 2049), (189, 1, 6, 153, 1, 976, 978, 2050), (192, 0, 0, 158, 1, 997, 998, 0), (197, 1, 6, 157, 2, 993, 995, 2051), (201, 1, 6, 162, 1, 1012, 1014, 2053), (204, 1, 6, 161, 1, 1008, 1010, 2052), (209, 1, 6, 165, 2, 1026, 1028, 2054), (212, 1, 6, 167, 1, 1034, 1036, 2055), (215, 1, 6, 168, 1, 1038, 1040, 2056), (218, 1, 6, 169, 1, 1042, 1044, 2057), (221, 1, 6, 170, 1, 1046, 1048, 2058), (224, 1, 6, 172, 2, 1054, 1056, 2059), (227, 1, 6, 177, 4, 1074, 1076, 2060), (233, 0, 0, 180, 1, 1086, 1087, 0), (236, 1, 6, 181, 4, 1090, 1092, 2061), (240, 0, 0, 184, 1, 1102, 1103, 0), (243, 1, 6, 185, 2, 1105, 1107, 2062), (248, 0, 0, 187, 1, 1114, 1115, 0), (254, 0, 0, 188, 3, 1118, 1119, 0), (262, 1, 6, 192, 3, 1134, 1136, 2063), (265, 1, 6, 198, 3, 1159, 1161, 2064), (268, 0, 0, 201, 1, 1171, 1172, 0), (273, 1, 6, 203, 2, 1179, 1181, 2065), (276, 0, 0, 204, 2, 1183, 1184, 0), (282, 1, 6, 208, 2, 1198, 1200, 2068), (288, 1, 6, 209, 2, 1202, 1204, 2069), (294, 1, 6, 207, 2, 1194, 1196, 2067), (300, 1, 6, 206, 2, 1190, 1192, 2066), (303, 1, 6, 211, 2, 1210, 1212, 2071), (309, 1, 6, 213, 2, 1218, 1220, 2073), (312, 1, 6, 210, 2, 1206, 1208, 2070), (315, 1, 6, 215, 2, 1226, 1228, 2075), (318, 1, 6, 212, 2, 1214, 1216, 2072), (321, 1, 6, 214, 2, 1222, 1224, 2074), (324, 1, 6, 218, 1, 1238, 1240, 2076)]
  | 7 => [(9, 3, 0, 54, 1, 17, 18, 0), (12, 3, 0, 112, 1, 729, 730, 0), (15, 1, 5, 55, 3, 218, 219, 220), (19, 1, 6, 114, 3, 819, 820, 821), (20, 1, 5, 57, 1, 225, 226, 227), (24, 1, 6, 116, 1, 828, 829, 830), (25, 1, 5, 59, 3, 366, 367, 368), (29, 1, 6, 134, 3, 897, 898, 899), (30, 1, 5, 60, 2, 371, 372, 373), (34, 1, 6, 136, 2, 908, 909, 910), (35, 1, 5, 61, 5, 375, 376, 377), (39, 1, 6, 137, 5, 912, 913, 914), (40, 1, 5, 62, 3, 380, 381, 382), (43, 1, 6, 139, 3, 920, 921, 922), (44, 1, 5, 63, 3, 407, 408, 409), (47, 1, 6, 145, 3, 944, 945, 946), (48, 1, 5, 64, 4, 420, 421, 422), (52, 1, 6, 148, 4, 956, 957, 958), (53, 1, 5, 65, 3, 424, 425, 426), (56, 1, 6, 149, 3, 960, 961, 962), (57, 1, 5, 66, 3, 428, 429, 430), (60, 1, 6, 150, 3, 964, 965, 966), (61, 1, 5, 67, 2, 432, 433, 434), (64, 1, 6, 151, 2, 968, 969, 970), (65, 1, 5, 68, 3, 444, 445, 446), (68, 1, 6, 154, 3, 980, 981, 982), (69, 1, 5, 69, 3, 449, 450, 451), (72, 1, 6, 155, 3, 984, 985, 986), (73, 1, 5, 70, 2, 453, 454, 455), (76, 1, 6, 156, 2, 988, 989, 990), (77, 1, 5, 72, 2, 481, 482, 483), (80, 1, 6, 159, 2, 1000, 1001, 1002), (81, 1, 5, 73, 1, 485, 486, 487), (84, 1, 6, 160, 1, 1004, 1005, 1006), (85, 1, 5, 74, 2, 499, 500, 501), (88, 1, 6, 163, 2, 1017, 1018, 1019), (89, 1, 5, 75, 2, 503, 504, 505), (92, 1, 6, 164, 2, 1022, 1023, 1024), (93, 1, 5, 76, 2, 511, 512, 513), (96, 1, 6, 166, 2, 1030, 1031, 1032), (97, 1, 5, 77, 2, 536, 537, 538), (100, 1, 6, 171, 2, 1050, 1051, 1052), (101, 1, 5, 79, 1, 544, 545, 546), (104, 1, 6, 173, 1, 1058, 1059, 1060), (105, 1, 5, 80, 1, 548, 549, 550), (108, 1, 6, 174, 1, 1062, 1063, 1064), (109, 1, 5, 81, 1, 552, 553, 554), (112, 1, 6, 175, 1, 1066, 1067, 1068), (113, 1, 5, 82, 2, 556, 557, 558), (116, 1, 6, 176, 2, 1070, 1071, 1072), (117, 1, 5, 83, 2, 560, 561, 562), (120, 1, 6, 178, 2, 1078, 1079, 1080), (121, 1, 5, 84, 3, 564, 565, 566), (124, 1, 6, 179, 3, 1082, 1083, 1084), (125, 1, 5, 86, 3, 572, 573, 574), (128, 1, 6, 182, 3, 1094, 1095, 1096), (129, 1, 5, 87, 4, 577, 578, 579), (132, 1, 6, 183, 4, 1098, 1099, 1100), (133, 1, 5, 89, 4, 590, 591, 592), (137, 1, 6, 186, 4, 1109, 1110, 1111), (138, 1, 5, 92, 3, 601, 602, 603), (142, 1, 6, 189, 3, 1121, 1122, 1123), (143, 1, 5, 93, 3, 605, 606, 607), (146, 1, 6, 190, 3, 1125, 1126, 1127), (147, 1, 5, 95, 3, 613, 614, 615), (150, 1, 6, 191, 3, 1130, 1131, 1132), (151, 1, 5, 97, 4, 621, 622, 623), (154, 1, 6, 193, 4, 1139, 1140, 1141), (155, 1, 5, 98, 2, 625, 626, 627), (158, 1, 6, 194, 2, 1143, 1144, 1145), (159, 1, 5, 99, 5, 629, 630, 631), (162, 1, 6, 199, 5, 1163, 1164, 1165), (163, 1, 5, 100, 4, 634, 635, 636), (166, 1, 6, 195, 4, 1147, 1148, 1149), (167, 1, 5, 101, 4, 642, 643, 644), (170, 1, 6, 196, 4, 1151, 1152, 1153), (171, 1, 5, 102, 4, 650, 651, 652), (174, 1, 6, 197, 4, 1155, 1156, 1157), (175, 1, 5, 103, 4, 654, 655, 656), (178, 1, 6, 200, 4, 1167, 1168, 1169), (179, 1, 5, 104, 3, 667, 668, 669), (182, 1, 6, 202, 3, 1174, 1175, 1176), (183, 1, 5, 107, 4, 678, 679, 680), (186, 1, 6, 205, 4, 1186, 1187, 1188), (187, 1, 5, 108, 2, 707, 708, 709), (190, 1, 6, 216, 2, 1230, 1231, 1232), (191, 1, 5, 109, 2, 711, 712, 713), (194, 1, 6, 217, 2, 1234, 1235, 1236), (195, 1, 5, 110, 1, 719, 720, 721), (198, 1, 6, 219, 1, 1242, 1243, 1244), (199, 1, 5, 111, 1, 723, 724, 725), (202, 1, 6, 220, 1, 1246, 1247, 1248)]
  | 10 => [(335, 2, 0, 222, 1, 255, 256, 257), (492, 2, 0, 224, 1, 265, 266, 267), (495, 0, 0, 226, 2, 269, 270, 0), (498, 0, 0, 227, 2, 280, 281, 0), (1059, 0, 0, 231, 3, 277, 278, 0)]
  | 11 => [(9, 0, 0, 225, 2, 272, 273, 0)]
  | 12 => [(48, 0, 0, 229, 1, 286, 287, 0), (67, 0, 0, 228, 2, 283, 284, 0), (71, 0, 0, 230, 2, 290, 291, 0), (414, 0, 0, 225, 2, 289, 273, 0)]
  | _ => []
/-- classes: number, words -/
def ma_cls (own : Nat) : List (Nat × Nat × Nat × Nat × Nat) := match own with
  | 5 => [(7, 4, 23, 24, 2), (22, 3, 86, 87, 3), (33, 1, 114, 148, 5), (39, 2, 116, 169, 6), (45, 0, 118, 119, 4)]
  | 7 => [(7, 5, 15, 16, 1), (10, 6, 727, 728, 7)]
  | _ => []
/-- int constants -/
def ma_ccs (own : Nat) : List (Nat × Int32 × Nat) := match own with
  | 4 => [(100, 1103515245, 497)]
  | 6 => [(200, 1103515245, 1016)]
  | 16 => [(265, 1431655765, 404), (266, 858993459, 405), (267, 252645135, 406)]
  | _ => []
/-- long constants -/
def ma_lcs (own : Nat) : List (Nat × Int64 × Nat) := match own with
  | 5 => [(195, (-1), 589), (201, 100, 597)]
  | 6 => [(55, 8, 823), (65, 255, 827), (148, 3, 901), (150, 99, 902), (152, 9, 903), (158, 5, 916), (178, 6, 928), (195, 60, 992), (207, 30, 1021), (231, 20, 1089), (246, (-1), 1113), (252, 100, 1117), (258, 10, 1129), (260, 2, 1138), (271, 13, 1178)]
  | 7 => [(13, 4294967295, 1250)]
  | _ => []
/-- text constants -/
def ma_sts (own : Nat) : List (Nat × Nat × Nat) := match own with
  | 3 => [(39, 10, 334), (75, 11, 339), (83, 12, 348), (85, 13, 349), (91, 14, 354), (109, 0, 246), (111, 1, 299), (113, 2, 300), (115, 3, 301), (121, 4, 309), (123, 5, 310), (125, 6, 311), (127, 7, 312), (129, 8, 313), (131, 9, 314)]
  | _ => []
/-- methods: class, code, locals, what it answers, name, how deep its calls go, words -/
abbrev ma_M : Type := Nat × ByteArray × Nat × Option FieldType × MethodName × Nat × Nat × Nat
def ma_mt0 : List ma_M := [(0, cX0_init, 1, none, yX0_init, 1, 122, 4),
  (0, cX0_perform, 4, (some .int), yX0_perform, 4, 685, 4),
  (0, cX0_turns, 3, (some .int), yX0_turns, 1, 689, 4),
  (0, cX0_began, 3, none, yX0_began, 0, 693, 4),
  (0, cX0_names, 3, (some .int), yX0_names, 2, 698, 4),
  (0, cX0_parts, 4, (some .int), yX0_parts, 2, 702, 4),
  (0, cX0_lands, 3, (some .int), yX0_lands, 3, 706, 4),
  (1, cX1_init, 1, none, yX1_init, 1, 151, 5),
  (1, cX1_isMissing, 1, (some .boolean), yX1_isMissing, 0, 584, 5),
  (1, cX1_begin, 4, none, yX1_begin, 0, 641, 5),
  (1, cX1_narrowed, 2, (some .long), yX1_narrowed, 0, 649, 5),
  (2, cX2_init, 1, none, yX2_init, 1, 172, 6),
  (2, cX2_takeLeaf, 2, none, yX2_takeLeaf, 0, 661, 6),
  (2, cX2_takeRow, 2, none, yX2_takeRow, 1, 665, 6),
  (3, cX3_init, 1, none, yX3_init, 1, 90, 3),
  (3, cX3_readInto, 5, (some .int), yX3_readInto, 8, 233, 3),
  (3, cX3_step, 1, none, yX3_step, 1, 237, 3),
  (3, cX3_sortAt, 3, (some .int), yX3_sortAt, 0, 241, 3),
  (3, cX3_lawNamed, 1, (some .int), yX3_lawNamed, 6, 245, 3),
  (3, cX3_isName, 3, (some .boolean), yX3_isName, 5, 250, 3),
  (3, cX3_kindNamed, 2, (some .int), yX3_kindNamed, 6, 305, 3),
  (3, cX3_kindName, 1, (some (.object "java/lang/String")), yX3_kindName, 0, 308, 3),
  (3, cX3_readLaw, 4, none, yX3_readLaw, 3, 318, 3),
  (3, cX3_number, 3, (some .int), yX3_number, 2, 325, 3),
  (3, cX3_value, 3, (some .int), yX3_value, 0, 329, 3),
  (3, cX3_passSemicolon, 2, (some .boolean), yX3_passSemicolon, 2, 333, 3),
  (3, cX3_readSway, 4, none, yX3_readSway, 7, 338, 3),
  (3, cX3_passName, 3, (some .boolean), yX3_passName, 6, 343, 3),
  (3, cX3_readLeaf, 6, none, yX3_readLeaf, 7, 347, 3),
  (3, cX3_numberNamed, 4, (some .int), yX3_numberNamed, 6, 353, 3)]
def ma_mt1 : List ma_M := [(4, cX4_init, 1, none, yX4_init, 1, 27, 2),
  (4, cX4_clear, 2, none, yX4_clear, 0, 32, 2),
  (4, cX4_grow, 5, none, yX4_grow, 0, 358, 2),
  (4, cX4_become, 2, none, yX4_become, 1, 362, 2),
  (4, cX4_has, 2, (some .boolean), yX4_has, 0, 387, 2),
  (4, cX4_hangs, 2, (some .boolean), yX4_hangs, 0, 391, 2),
  (4, cX4_mates, 2, (some .int), yX4_mates, 2, 395, 2),
  (4, cX4_hangingOn, 4, (some .int), yX4_hangingOn, 1, 399, 2),
  (4, cX4_loses, 3, (some .int), yX4_loses, 3, 414, 2),
  (4, cX4_rank, 3, (some .int), yX4_rank, 0, 419, 2),
  (4, cX4_fell, 2, none, yX4_fell, 0, 439, 2),
  (4, cX4_hanging, 1, (some .int), yX4_hanging, 0, 443, 2),
  (4, cX4_passDay, 2, (some .int), yX4_passDay, 4, 460, 2),
  (4, cX4_isTied, 2, (some .boolean), yX4_isTied, 0, 464, 2),
  (4, cX4_faller, 3, (some .int), yX4_faller, 1, 478, 2),
  (4, cX4_passDayByDraws, 2, (some .int), yX4_passDayByDraws, 5, 492, 2),
  (4, cX4_drawn, 1, (some .int), yX4_drawn, 0, 496, 2),
  (4, cX4_signWritten, 3, (some .int), yX4_signWritten, 0, 510, 2),
  (4, cX4_hangingSet, 3, (some .int), yX4_hangingSet, 1, 518, 2),
  (4, cX4_holdTogether, 3, (some .int), yX4_holdTogether, 1, 522, 2),
  (4, cX4_rhymes, 3, (some .int), yX4_rhymes, 1, 526, 2),
  (4, cX4_spelled, 3, (some .int), yX4_spelled, 1, 531, 2),
  (4, cX4_swayTogether, 3, (some .int), yX4_swayTogether, 0, 535, 2),
  (4, cX4_boughsHungOn, 3, (some .int), yX4_boughsHungOn, 2, 718, 2),
  (5, cX5_init, 2, none, yX5_init, 2, 19, 1),
  (5, cX5_feed, 5, (some .int), yX5_feed, 1, 221, 1),
  (5, cX5_isWithin, 3, (some .boolean), yX5_isWithin, 0, 224, 1),
  (5, cX5_autumn, 2, (some .int), yX5_autumn, 9, 228, 1),
  (5, cX5_mostOfLaw, 1, (some .int), yX5_mostOfLaw, 0, 321, 1),
  (5, cX5_set, 4, (some .int), yX5_set, 1, 369, 1)]
def ma_mt2 : List ma_M := [(5, cX5_lawOf, 2, (some .int), yX5_lawOf, 1, 374, 1),
  (5, cX5_leaf, 5, (some .int), yX5_leaf, 1, 378, 1),
  (5, cX5_of, 3, (some .int), yX5_of, 3, 383, 1),
  (5, cX5_does, 3, (some .int), yX5_does, 4, 410, 1),
  (5, cX5_mind, 5, (some .int), yX5_mind, 1, 423, 1),
  (5, cX5_hold, 4, (some .int), yX5_hold, 1, 427, 1),
  (5, cX5_move, 4, (some .int), yX5_move, 1, 431, 1),
  (5, cX5_pluck, 2, (some .int), yX5_pluck, 1, 435, 1),
  (5, cX5_bough, 3, (some .int), yX5_bough, 2, 447, 1),
  (5, cX5_sway, 4, (some .int), yX5_sway, 1, 452, 1),
  (5, cX5_days, 3, (some .int), yX5_days, 5, 456, 1),
  (5, cX5_held, 1, (some .int), yX5_held, 1, 468, 1),
  (5, cX5_seed, 3, (some .int), yX5_seed, 0, 484, 1),
  (5, cX5_day, 1, (some .int), yX5_day, 6, 488, 1),
  (5, cX5_lost, 6, (some .int), yX5_lost, 6, 502, 1),
  (5, cX5_written, 2, (some .int), yX5_written, 1, 506, 1),
  (5, cX5_state, 2, (some .int), yX5_state, 2, 514, 1),
  (5, cX5_falls, 3, (some .int), yX5_falls, 6, 539, 1),
  (5, cX5_daysToFall, 3, (some .int), yX5_daysToFall, 5, 543, 1),
  (5, cX5_bare, 2, (some .int), yX5_bare, 5, 547, 1),
  (5, cX5_next, 3, (some .int), yX5_next, 5, 551, 1),
  (5, cX5_latest, 4, (some .int), yX5_latest, 5, 555, 1),
  (5, cX5_boughFor, 6, (some .int), yX5_boughFor, 6, 559, 1),
  (5, cX5_kindFor, 6, (some .int), yX5_kindFor, 6, 563, 1),
  (5, cX5_holdFor, 4, (some .int), yX5_holdFor, 6, 567, 1),
  (5, cX5_hangsBehind, 4, (some .boolean), yX5_hangsBehind, 5, 571, 1),
  (5, cX5_tiedFor, 7, (some .int), yX5_tiedFor, 6, 575, 1),
  (5, cX5_fits, 7, (some .int), yX5_fits, 6, 580, 1),
  (5, cX5_fitsWithHold, 7, (some .boolean), yX5_fitsWithHold, 5, 588, 1),
  (5, cX5_odds, 11, (some .long), yX5_odds, 1, 593, 1)]
def ma_mt3 : List ma_M := [(5, cX5_ways, 5, (some .long), yX5_ways, 0, 596, 1),
  (5, cX5_partOf, 12, (some .long), yX5_partOf, 0, 600, 1),
  (5, cX5_hope, 3, (some .long), yX5_hope, 1, 604, 1),
  (5, cX5_prove, 5, (some .int), yX5_prove, 5, 608, 1),
  (5, cX5_rowPartTried, 3, (some .int), yX5_rowPartTried, 1, 612, 1),
  (5, cX5_row, 3, (some .int), yX5_row, 2, 616, 1),
  (5, cX5_isRowPart, 3, (some .boolean), yX5_isRowPart, 1, 620, 1),
  (5, cX5_alterRow, 5, (some .int), yX5_alterRow, 2, 624, 1),
  (5, cX5_judge, 4, (some .int), yX5_judge, 5, 628, 1),
  (5, cX5_minds, 7, (some .int), yX5_minds, 2, 632, 1),
  (5, cX5_sheet, 4, (some .int), yX5_sheet, 1, 637, 1),
  (5, cX5_put, 5, (some .int), yX5_put, 1, 645, 1),
  (5, cX5_item, 5, (some .int), yX5_item, 1, 653, 1),
  (5, cX5_shelf, 5, (some .int), yX5_shelf, 2, 657, 1),
  (5, cX5_taken, 5, (some .int), yX5_taken, 2, 670, 1),
  (5, cX5_isNothing, 2, (some .boolean), yX5_isNothing, 1, 674, 1),
  (5, cX5_isUnder, 2, (some .boolean), yX5_isUnder, 0, 677, 1),
  (5, cX5_act, 5, (some .int), yX5_act, 5, 681, 1),
  (5, cX5_trace, 2, (some .int), yX5_trace, 1, 710, 1),
  (5, cX5_many, 2, (some .int), yX5_many, 3, 714, 1),
  (5, cX5_keep, 1, (some .int), yX5_keep, 2, 722, 1),
  (5, cX5_again, 1, (some .int), yX5_again, 2, 726, 1),
  (6, cX6_init, 1, none, yX6_init, 1, 731, 7),
  (6, cX6_begins, 3, none, yX6_begins, 0, 736, 7),
  (6, cX6_feed, 5, (some .int), yX6_feed, 1, 822, 7),
  (6, cX6_isIn, 6, (some .boolean), yX6_isIn, 0, 826, 7),
  (6, cX6_autumn, 1, (some .int), yX6_autumn, 7, 831, 7),
  (6, cX6_copyRow, 3, none, yX6_copyRow, 0, 834, 7),
  (6, cX6_nextToken, 2, none, yX6_nextToken, 1, 838, 7),
  (6, cX6_byteAt, 2, (some .int), yX6_byteAt, 0, 842, 7)]
def ma_mt4 : List ma_M := [(6, cX6_isAlpha, 1, (some .boolean), yX6_isAlpha, 0, 845, 7),
  (6, cX6_isDigit, 1, (some .boolean), yX6_isDigit, 0, 848, 7),
  (6, cX6_itemHere, 3, none, yX6_itemHere, 6, 852, 7),
  (6, cX6_kindHere, 1, (some .int), yX6_kindHere, 3, 856, 7),
  (6, cX6_isFour, 5, (some .boolean), yX6_isFour, 2, 860, 7),
  (6, cX6_isName, 6, (some .boolean), yX6_isName, 1, 864, 7),
  (6, cX6_isSame, 5, (some .boolean), yX6_isSame, 1, 868, 7),
  (6, cX6_lawHere, 1, (some .int), yX6_lawHere, 3, 872, 7),
  (6, cX6_leafHere, 3, none, yX6_leafHere, 5, 876, 7),
  (6, cX6_needs, 2, none, yX6_needs, 2, 880, 7),
  (6, cX6_isTwo, 3, (some .boolean), yX6_isTwo, 1, 884, 7),
  (6, cX6_numberTo, 4, none, yX6_numberTo, 3, 888, 7),
  (6, cX6_perhaps, 4, none, yX6_perhaps, 4, 892, 7),
  (6, cX6_swayHere, 2, none, yX6_swayHere, 4, 896, 7),
  (6, cX6_set, 3, (some .int), yX6_set, 1, 900, 7),
  (6, cX6_becomes, 4, (some .int), yX6_becomes, 0, 907, 7),
  (6, cX6_lawOf, 2, (some .int), yX6_lawOf, 1, 911, 7),
  (6, cX6_leaf, 6, (some .int), yX6_leaf, 1, 915, 7),
  (6, cX6_isBough, 1, (some .boolean), yX6_isBough, 0, 919, 7),
  (6, cX6_of, 3, (some .int), yX6_of, 3, 923, 7),
  (6, cX6_isOne, 2, (some .boolean), yX6_isOne, 0, 927, 7),
  (6, cX6_mates, 2, (some .int), yX6_mates, 2, 932, 7),
  (6, cX6_its, 3, (some .int), yX6_its, 0, 936, 7),
  (6, cX6_hangingOn, 4, (some .int), yX6_hangingOn, 1, 940, 7),
  (6, cX6_size, 3, (some .int), yX6_size, 0, 943, 7),
  (6, cX6_does, 3, (some .int), yX6_does, 4, 947, 7),
  (6, cX6_loses, 3, (some .int), yX6_loses, 3, 951, 7),
  (6, cX6_rank, 3, (some .int), yX6_rank, 1, 955, 7),
  (6, cX6_mind, 4, (some .int), yX6_mind, 1, 959, 7),
  (6, cX6_hold, 3, (some .int), yX6_hold, 1, 963, 7)]
def ma_mt5 : List ma_M := [(6, cX6_move, 3, (some .int), yX6_move, 1, 967, 7),
  (6, cX6_pluck, 2, (some .int), yX6_pluck, 2, 971, 7),
  (6, cX6_falls0, 2, none, yX6_falls0, 0, 975, 7),
  (6, cX6_hanging, 3, (some .int), yX6_hanging, 1, 979, 7),
  (6, cX6_bough, 3, (some .int), yX6_bough, 2, 983, 7),
  (6, cX6_sway, 3, (some .int), yX6_sway, 1, 987, 7),
  (6, cX6_days, 4, (some .int), yX6_days, 5, 991, 7),
  (6, cX6_goesBy, 5, (some .int), yX6_goesBy, 4, 996, 7),
  (6, cX6_within, 1, (some .int), yX6_within, 0, 999, 7),
  (6, cX6_seed, 2, (some .int), yX6_seed, 1, 1003, 7),
  (6, cX6_day, 2, (some .int), yX6_day, 6, 1007, 7),
  (6, cX6_goesByDraws, 2, (some .int), yX6_goesByDraws, 5, 1011, 7),
  (6, cX6_drawn, 1, (some .int), yX6_drawn, 0, 1015, 7),
  (6, cX6_lost, 6, (some .int), yX6_lost, 6, 1020, 7),
  (6, cX6_written, 2, (some .int), yX6_written, 2, 1025, 7),
  (6, cX6_signOf, 4, (some .int), yX6_signOf, 1, 1029, 7),
  (6, cX6_state, 2, (some .int), yX6_state, 3, 1033, 7),
  (6, cX6_holdOfAll, 3, (some .int), yX6_holdOfAll, 1, 1037, 7),
  (6, cX6_rhymes, 3, (some .int), yX6_rhymes, 2, 1041, 7),
  (6, cX6_spelled, 3, (some .int), yX6_spelled, 2, 1045, 7),
  (6, cX6_swayOfAll, 3, (some .int), yX6_swayOfAll, 0, 1049, 7),
  (6, cX6_falls, 3, (some .int), yX6_falls, 6, 1053, 7),
  (6, cX6_fallsBy, 4, (some .int), yX6_fallsBy, 5, 1057, 7),
  (6, cX6_bare, 3, (some .int), yX6_bare, 5, 1061, 7),
  (6, cX6_next, 3, (some .int), yX6_next, 5, 1065, 7),
  (6, cX6_latest, 5, (some .int), yX6_latest, 6, 1069, 7),
  (6, cX6_boughFor, 2, (some .int), yX6_boughFor, 7, 1073, 7),
  (6, cX6_lastBy, 9, (some .int), yX6_lastBy, 6, 1077, 7),
  (6, cX6_kindFor, 2, (some .int), yX6_kindFor, 7, 1081, 7),
  (6, cX6_holdFor, 7, (some .int), yX6_holdFor, 6, 1085, 7)]
def ma_mt6 : List ma_M := [(6, cX6_isShort, 1, (some .boolean), yX6_isShort, 1, 1088, 7),
  (6, cX6_hangsBehind, 6, (some .boolean), yX6_hangsBehind, 5, 1093, 7),
  (6, cX6_tiedFor, 7, (some .int), yX6_tiedFor, 6, 1097, 7),
  (6, cX6_fits, 10, (some .int), yX6_fits, 6, 1101, 7),
  (6, cX6_isSheet, 1, (some .boolean), yX6_isSheet, 1, 1104, 7),
  (6, cX6_isTold, 6, (some .boolean), yX6_isTold, 5, 1108, 7),
  (6, cX6_odds, 9, (some .long), yX6_odds, 1, 1112, 7),
  (6, cX6_product, 4, (some .long), yX6_product, 0, 1116, 7),
  (6, cX6_partOf, 11, (some .long), yX6_partOf, 0, 1120, 7),
  (6, cX6_hope, 3, (some .long), yX6_hope, 1, 1124, 7),
  (6, cX6_prove, 5, (some .int), yX6_prove, 5, 1128, 7),
  (6, cX6_row, 3, (some .int), yX6_row, 2, 1133, 7),
  (6, cX6_isRow, 3, (some .boolean), yX6_isRow, 1, 1137, 7),
  (6, cX6_alterRow, 5, (some .int), yX6_alterRow, 2, 1142, 7),
  (6, cX6_judge, 5, (some .int), yX6_judge, 5, 1146, 7),
  (6, cX6_sheet, 5, (some .int), yX6_sheet, 2, 1150, 7),
  (6, cX6_put, 4, (some .int), yX6_put, 2, 1154, 7),
  (6, cX6_item, 4, (some .int), yX6_item, 2, 1158, 7),
  (6, cX6_lacks, 3, (some .int), yX6_lacks, 0, 1162, 7),
  (6, cX6_minds, 6, (some .int), yX6_minds, 2, 1166, 7),
  (6, cX6_shelf, 5, (some .int), yX6_shelf, 2, 1170, 7),
  (6, cX6_isShelf, 1, (some .boolean), yX6_isShelf, 1, 1173, 7),
  (6, cX6_taken, 4, (some .int), yX6_taken, 2, 1177, 7),
  (6, cX6_heldOn, 2, (some .int), yX6_heldOn, 1, 1182, 7),
  (6, cX6_isUnder, 2, (some .boolean), yX6_isUnder, 0, 1185, 7),
  (6, cX6_act, 5, (some .int), yX6_act, 8, 1189, 7),
  (6, cX6_turns, 2, (some .int), yX6_turns, 3, 1193, 7),
  (6, cX6_turnsOfYellow, 2, (some .int), yX6_turnsOfYellow, 2, 1197, 7),
  (6, cX6_runs, 2, none, yX6_runs, 0, 1201, 7),
  (6, cX6_turnsPlain, 2, (some .int), yX6_turnsPlain, 1, 1205, 7)]
def ma_mt7 : List ma_M := [(6, cX6_names, 3, (some .int), yX6_names, 5, 1209, 7),
  (6, cX6_namesPlain, 2, (some .int), yX6_namesPlain, 4, 1213, 7),
  (6, cX6_parts, 3, (some .int), yX6_parts, 4, 1217, 7),
  (6, cX6_partsPlain, 2, (some .int), yX6_partsPlain, 1, 1221, 7),
  (6, cX6_lands, 3, (some .int), yX6_lands, 7, 1225, 7),
  (6, cX6_landsPlain, 2, (some .int), yX6_landsPlain, 6, 1229, 7),
  (6, cX6_trace, 2, (some .int), yX6_trace, 1, 1233, 7),
  (6, cX6_many, 2, (some .int), yX6_many, 3, 1237, 7),
  (6, cX6_boughsInUse, 3, (some .int), yX6_boughsInUse, 2, 1241, 7),
  (6, cX6_keep, 2, (some .int), yX6_keep, 0, 1245, 7),
  (6, cX6_again, 2, (some .int), yX6_again, 0, 1249, 7),
  (10, cJ0_length_8abf5, 1, (some .int), yJ0_length_8abf5, 1, 254, 8),
  (10, cJ0_coder_7d493, 1, (some .byte), yJ0_coder_7d493, 0, 258, 8),
  (10, cJ0_charAt_5068e, 2, (some .char), yJ0_charAt_5068e, 4, 264, 8),
  (10, cJ0_isLatin1_aae02, 1, (some .boolean), yJ0_isLatin1_aae02, 0, 268, 8),
  (10, cJ0_checkIndex_df160, 2, none, yJ0_checkIndex_df160, 1, 274, 8),
  (11, cJ1_charAt_3b067, 2, (some .char), yJ1_charAt_3b067, 2, 271, 9),
  (12, cJ2_charAt_3b067, 2, (some .char), yJ2_charAt_3b067, 3, 282, 11),
  (12, cJ2_checkIndex_2214a, 2, none, yJ2_checkIndex_2214a, 2, 285, 11),
  (12, cJ2_length_9d52b, 1, (some .int), yJ2_length_9d52b, 0, 288, 11),
  (12, cJ2_getChar_3b067, 2, (some .char), yJ2_getChar_3b067, 1, 292, 11),
  (13, cJ3_checkIndex_8e157, 3, (some .int), yJ3_checkIndex_8e157, 0, 279, 10),
  (16, cJ6_bitCount_0f7a4, 1, (some .int), yJ6_bitCount_0f7a4, 0, 403, 13),
  (7, cL_law, 4, (some .boolean), yL_law, 10, 0, 0)]
def ma_mts (m : Nat) : Option ma_M := match m / 30 with
  | 0 => ma_mt0[m % 30]?
  | 1 => ma_mt1[m % 30]?
  | 2 => ma_mt2[m % 30]?
  | 3 => ma_mt3[m % 30]?
  | 4 => ma_mt4[m % 30]?
  | 5 => ma_mt5[m % 30]?
  | 6 => ma_mt6[m % 30]?
  | 7 => ma_mt7[m % 30]?
  | _ => none
end
section
/-! ===== what each instruction of a method is, and runs ===== -/
def ma_cat (v : ma_V) : Nat := match v with
  | .inr (.inl _) => 2
  | _ => 1
def ma_g (b : Bool) (f : ma_F) : Option ma_I := if b then some (.inl f) else none
def ma_j (pc : Nat) (off : Int) (F : Nat → ma_F) (b : Bool) : Option ma_I := if b && decide (0 ≤ (pc : Int) + off) then some (.inl (F (ma_tgt pc off))) else none
def ma_tsw (pc : Nat) (dflt lo hi : Int) (offs : Array Int) (x : Int32) : Option Nat :=
  match (if x.toInt < lo ∨ hi < x.toInt then some dflt else offs[(x.toInt - lo).toNat]?) with
  | some off => if 0 ≤ (pc : Int) + off then some (ma_tgt pc off) else none
  | none => none
def ma_lsw (pc : Nat) (dflt : Int) (ps : Array (Int × Int)) (x : Int32) : Option Nat :=
  if 0 ≤ (pc : Int) + Op.lookupswitch.offset ps.toList dflt x.toInt then some (ma_tgt pc (Op.lookupswitch.offset ps.toList dflt x.toInt)) else none
/-- a step of the JDK's own: there must be room for it -/
def i_lim (k : Nat) (f : ma_F) : ma_F := fun c => if ((c.2.1.drop k).map ma_cat).sum ≤ 8 then f c else none
def ma_inv (own lv pc sort idx : Nat) : Option ma_I := match ma_lk (ma_mls own) idx with
  | some q => match sort, q.1 with
    | 0, 6 => ma_g (decide (1 ≤ lv)) (i_lim 2 (i_bin (fun x y => if x < y then y else x) (pc + 3)))
    | 0, 7 => ma_g (decide (1 ≤ lv)) (i_lim 2 (i_bin (fun x y => if y < x then y else x) (pc + 3)))
    | 0, 8 => ma_g (decide (1 ≤ lv)) (i_lim 5 (i_cpy (pc + 3)))
    | 0, 0 => some (.inr (.inl (0, q.2.1, q.2.2.1, q.2.2.2.1, pc + 3)))
    | 0, 4 => some (.inr (.inl (4, q.2.1, q.2.2.1, q.2.2.2.1, pc + 3)))
    | 1, 1 => some (.inr (.inl (1, q.2.1, q.2.2.1, q.2.2.2.1, pc + 3)))
    | 1, 2 => some (.inr (.inl (2, q.2.1, q.2.2.1, q.2.2.2.1, pc + 3)))
    | 2, 3 => some (.inr (.inl (3, q.2.1, q.2.2.1, q.2.2.2.1, pc + 3)))
    | 2, 5 => some (.inr (.inl (5, q.2.1, q.2.2.1, q.2.2.2.1, pc + 3)))
    | 2, 9 => ma_g (decide (1 ≤ lv)) (i_lim 1 (i_oin (pc + 3)))
    | _, _ => none
  | none => none
def ma_sem (xs : Nat → Int32) (L own lv : Nat) (ini : Bool) (pc : Nat) (ins : Instr) (len : Nat) : Option ma_I := match ins with
  | .aload_n k => ma_g (len == 1) (i_ald k.val (pc + 1))
  | .aload k => ma_g (len == 2) (i_ald k (pc + 2))
  | .iload_n k => ma_g (len == 1) (i_ild k.val (pc + 1))
  | .iload k => ma_g (len == 2) (i_ild k (pc + 2))
  | .lload_n k => ma_g (len == 1) (i_lld k.val (pc + 1))
  | .lload k => ma_g (len == 2) (i_lld k (pc + 2))
  | .istore_n k => ma_g (len == 1) (i_ist k.val (pc + 1))
  | .istore k => ma_g (len == 2) (i_ist k (pc + 2))
  | .lstore_n k => ma_g (len == 1) (i_lst k.val (pc + 1))
  | .lstore k => ma_g (len == 2) (i_lst k (pc + 2))
  | .astore_n k => ma_g (len == 1) (i_ast k.val (pc + 1))
  | .astore k => ma_g (len == 2) (i_ast k (pc + 2))
  | .iinc k d => ma_g (len == 3) (i_inc k d (pc + 3))
  | .iconst n => ma_g (len == 1) (i_con (Int32.ofInt n) (pc + 1))
  | .bipush n => ma_g (len == 2) (i_con (Int8.ofInt n).toInt32 (pc + 2))
  | .sipush n => ma_g (len == 3) (i_con (Int16.ofInt n).toInt32 (pc + 3))
  | .lconst n => ma_g (len == 1) (i_lcn (Int64.ofNat n.val) (pc + 1))
  | .ldc i => match ma_lk (ma_ccs own) i with
    | some q => ma_g (len == 2) (i_con q.1 (pc + 2))
    | none => match ma_lk (ma_sts own) i with
      | some q => ma_g (len == 2) (i_spc (3 + 2 * q.1) (pc + 2))
      | none => none
  | .ldc_w i => match ma_lk (ma_ccs own) i with
    | some q => ma_g (len == 3) (i_con q.1 (pc + 3))
    | none => none
  | .ldc2_w i => match ma_lk (ma_lcs own) i with
    | some q => ma_g (len == 3) (i_lcn q.1 (pc + 3))
    | none => none
  | .iadd => ma_g (len == 1) (i_bin (fun x y => x + y) (pc + 1))
  | .isub => ma_g (len == 1) (i_bin (fun x y => x - y) (pc + 1))
  | .imul => ma_g (len == 1) (i_bin (fun x y => x * y) (pc + 1))
  | .iand => ma_g (len == 1) (i_bin (fun x y => x &&& y) (pc + 1))
  | .ior => ma_g (len == 1) (i_bin (fun x y => x ||| y) (pc + 1))
  | .ixor => ma_g (len == 1) (i_bin (fun x y => x ^^^ y) (pc + 1))
  | .ishl => ma_g (len == 1) (i_bin (fun x y => x <<< (y &&& 31)) (pc + 1))
  | .ishr => ma_g (len == 1) (i_bin (fun x y => x >>> (y &&& 31)) (pc + 1))
  | .iushr => ma_g (len == 1) (i_bin (fun x y => (x.toUInt32 >>> (y.toUInt32 &&& Int32.toUInt32 31)).toInt32) (pc + 1))
  | .idiv => ma_g (len == 1) (i_dvi (fun x y => x / y) (pc + 1))
  | .irem => ma_g (len == 1) (i_dvi (fun x y => x - x / y * y) (pc + 1))
  | .ladd => ma_g (len == 1) (i_lbn (fun x y => x + y) (pc + 1))
  | .lsub => ma_g (len == 1) (i_lbn (fun x y => x - y) (pc + 1))
  | .lmul => ma_g (len == 1) (i_lbn (fun x y => x * y) (pc + 1))
  | .land => ma_g (len == 1) (i_lbn (fun x y => x &&& y) (pc + 1))
  | .lor => ma_g (len == 1) (i_lbn (fun x y => x ||| y) (pc + 1))
  | .ldiv => ma_g (len == 1) (i_ldv (fun x y => x / y) (pc + 1))
  | .lrem => ma_g (len == 1) (i_ldv (fun x y => x - x / y * y) (pc + 1))
  | .lshl => ma_g (len == 1) (i_lsh (fun x y => x <<< (y.toInt64 &&& 63)) (pc + 1))
  | .lshr => ma_g (len == 1) (i_lsh (fun x y => x >>> (y.toInt64 &&& 63)) (pc + 1))
  | .lushr => ma_g (len == 1) (i_lsh (fun x y => (x.toUInt64 >>> (y.toInt64.toUInt64 &&& Int64.toUInt64 63)).toInt64) (pc + 1))
  | .lcmp => ma_g (len == 1) (i_lcp (pc + 1))
  | .ineg => ma_g (len == 1) (i_una (fun x => -x) (pc + 1))
  | .i2b => ma_g (len == 1) (i_una (fun x => x.toInt8.toInt32) (pc + 1))
  | .i2s => ma_g (len == 1) (i_una (fun x => x.toInt16.toInt32) (pc + 1))
  | .i2c => ma_g (len == 1) (i_una (fun x => (x.toUInt32 % 65536).toInt32) (pc + 1))
  | .i2l => ma_g (len == 1) (i_i2l (pc + 1))
  | .l2i => ma_g (len == 1) (i_l2i (pc + 1))
  | .dup => ma_g (len == 1) (i_dup (pc + 1))
  | .pop => ma_g (len == 1) (i_pop (pc + 1))
  | .dup2 => ma_g (len == 1) (i_du2 (pc + 1))
  | .if_icmp k off => ma_j pc off (fun t => i_if2 (ma_cmp k) t (pc + 3)) (len == 3)
  | .ifCond k off => ma_j pc off (fun t => i_if1 (ma_cm0 k) t (pc + 3)) (len == 3)
  | .goto off => ma_j pc off i_gto (len == 3)
  | .tableswitch dflt lo hi offs => some (.inl (i_swi (ma_tsw pc dflt lo hi offs)))
  | .lookupswitch dflt ps => ma_g ((ps.toList.zip (ps.toList.drop 1)).all (fun q => decide (q.1.1 < q.2.1))) (i_swi (ma_lsw pc dflt ps))
  | .getfield i => match ma_lk (ma_fls own) i with
    | some q => ma_g (len == 3) (if ma_isr (ma_ty q.1 q.2.1) then i_gtr q.1 q.2.1 (pc + 3) else i_gti q.1 q.2.1 (pc + 3))
    | none => if own = 10 ∧ (i = 9 ∨ i = 15) then ma_g (len == 3) (i_gts (if i = 9 then 0 else 1) (pc + 3)) else none
  | .putfield i => match ma_lk (ma_fls own) i with
    | some q => ma_g (len == 3 && (!(ma_tx q.1 q.2.1).2.2.2 || (ini && q.1 == own))) (if ma_isr (ma_ty q.1 q.2.1) then i_ptr q.1 q.2.1 (pc + 3) else i_pti q.1 q.2.1 (pc + 3))
    | none => none
  | .getstatic i => if own = 10 ∧ i = 38 then ma_g (len == 3) (i_con 1 (pc + 3)) else if own = 10 ∧ i = 1053 then ma_g (len == 3) (i_spc 2 (pc + 3)) else none
  | .iaload => ma_g (len == 1) (if own = 7 then i_sld xs L (pc + 1) else i_iald (pc + 1))
  | .baload => ma_g (len == 1) (i_bald (pc + 1))
  | .laload => ma_g (len == 1) (i_lald (pc + 1))
  | .aaload => ma_g (len == 1) (i_aald (pc + 1))
  | .iastore => ma_g (len == 1) (i_iast (pc + 1))
  | .bastore => ma_g (len == 1) (i_bast (pc + 1))
  | .lastore => ma_g (len == 1) (i_last (pc + 1))
  | .aastore => ma_g (len == 1) (i_aast (pc + 1))
  | .arraylength => ma_g (len == 1) (if own = 7 then i_sln L (pc + 1) else i_alen (pc + 1))
  | .new i => match ma_lk (ma_cls own) i with
    | some q => ma_g (len == 3) (i_new q.1 (pc + 3))
    | none => none
  | .newarray t => match t with
    | .int => ma_g (len == 2) (i_nwa 0 (pc + 2))
    | .byte => ma_g (len == 2) (i_nwa 1 (pc + 2))
    | .long => ma_g (len == 2) (i_nwa 2 (pc + 2))
    | _ => none
  | .anewarray i => if own = 5 ∧ i = 33 then ma_g (len == 3) (i_nwa 3 (pc + 3)) else if own = 5 ∧ i = 39 then ma_g (len == 3) (i_nwa 4 (pc + 3)) else none
  | .invokestatic i => if len = 3 then ma_inv own lv pc 0 i else none
  | .invokevirtual i => if len = 3 then ma_inv own lv pc 1 i else none
  | .invokespecial i => if len = 3 then ma_inv own lv pc 2 i else none
  | .return_ => if len = 1 then some (.inr (.inr 0)) else none
  | .ireturn => if len = 1 then some (.inr (.inr 1)) else none
  | .lreturn => if len = 1 then some (.inr (.inr 2)) else none
  | .areturn => if len = 1 then some (.inr (.inr 3)) else none
  | _ => none
def ma_pg (xs : Nat → Int32) (L m pc : Nat) : Option ma_I := match ma_mts m with
  | none => none
  | some q => match decode q.2.1 pc with
    | .ok r => ma_sem xs L q.1 q.2.2.2.2.2.1 (q.2.2.2.2.1.name == "<init>") pc r.1 r.2
    | .error _ => none
def ma_arg : List ma_V → List ma_V
  | [] => []
  | v :: r => match v with
    | .inr (.inl x) => vL x :: vS 0 :: ma_arg r
    | v => v :: ma_arg r
/-- the locals with which a method begins -/
def ma_ent (maxL : Nat) (as : List ma_V) : List ma_V := ma_arg as ++ List.replicate (maxL - (ma_arg as).length) (vS 0)
/-- is the receiver as this kind of call wants it? -/
def ma_rcv (w : ma_W) (kind ci : Nat) (as : List ma_V) : Bool := match kind with
  | 0 => true
  | 4 => true
  | 1 => match as with
    | .inr (.inr (.inl (some o))) :: _ => decide ((ma_sh w)[o]? = some (.inl ci))
    | _ => false
  | 2 => match as with
    | .inr (.inr (.inr a)) :: _ => decide (3 ≤ a ∧ a < 33 ∧ a % 2 = 1)
    | _ => false
  | _ => match as with
    | .inr (.inr (.inl (some _))) :: _ => true
    | _ => false
/-- a call's values (the receiver first), and what lies below them -/
def ma_call (w : ma_W) (lv : Nat) (q : Nat × Nat × Nat × Nat × Nat) (st : List ma_V) : Option (ma_M × List ma_V × List ma_V) := match ma_mts q.2.2.1 with
  | none => none
  | some t => if decide (q.2.2.2.1 ≤ st.length) && decide (t.2.2.2.2.2.1 < lv) && decide (((st.drop q.2.2.2.1).map ma_cat).sum ≤ 8) && decide ((ma_arg (st.take q.2.2.2.1).reverse).length ≤ t.2.2.1) && ma_rcv w q.1 q.2.1 (st.take q.2.2.2.1).reverse then some (t, (st.take q.2.2.2.1).reverse, st.drop q.2.2.2.1) else none
def ma_ret (k : Nat) (ret : Option FieldType) (st : List ma_V) : Option (Option ma_V) := match k, st with
  | 0, [] => if ret = none then some none else none
  | 1, [.inl x] => match ret with
    | some .int => some (some (vI x))
    | some .boolean => if decide (vp_nar .boolean x = x) then some (some (vI x)) else none
    | some .char => if decide (vp_nar .char x = x) then some (some (vI x)) else none
    | some .byte => if decide (vp_nar .byte x = x) then some (some (vI x)) else none
    | _ => none
  | 2, [.inr (.inl x)] => if ret = some .long then some (some (vL x)) else none
  | 3, [.inr (.inr (.inr a))] => if ret = some (.object "java/lang/String") ∧ 3 ≤ a ∧ a < 33 ∧ a % 2 = 1 then some (some (vS a)) else none
  | _, _ => none
def ma_run (xs : Nat → Int32) (L : Nat) : Nat → Nat → Nat → List ma_V → List ma_V → ma_W → Option (Option ma_V × ma_W)
  | 0, _, _, _, _, _ => none
  | n + 1, m, pc, ls, st, w => match ma_mts m with
    | none => none
    | some t => match ma_pg xs L m pc with
      | none => none
      | some (.inl f) => match f (ls, st, w) with
        | none => none
        | some c => ma_run xs L n m c.1 c.2.1 c.2.2.1 c.2.2.2
      | some (.inr (.inl q)) => match ma_call w t.2.2.2.2.2.1 q st with
        | none => none
        | some r => match ma_run xs L n q.2.2.1 0 (ma_ent r.1.2.2.1 r.2.1) [] w with
          | none => none
          | some b => ma_run xs L n m q.2.2.2.2 ls (b.1.toList ++ r.2.2) b.2
      | some (.inr (.inr k)) => match ma_ret k t.2.2.2.1 st with
        | none => none
        | some v => some (v, w)
end
section
/-! ===== what the heap holds when the small machine is in a world ===== -/
/-- lo: where our cells begin; String constants: their addresses, those of their bytes; a static of the JDK's; classes and slots; classes of arrays by kind; the script: its cell, its length, its ints -/
abbrev ma_E : Type := Nat × (Nat → Nat) × (Nat → Nat) × Option Nat × va_G × (Nat → ClassId) × Nat × Nat × (Nat → Int32)
def e_lo (E : ma_E) : Nat := E.1
def e_ak (E : ma_E) : Nat → Nat := E.2.1
def e_av (E : ma_E) : Nat → Nat := E.2.2.1
def e_fm (E : ma_E) : Option Nat := E.2.2.2.1
def e_dd (E : ma_E) : va_G := E.2.2.2.2.1
def e_cy (E : ma_E) : Nat → ClassId := E.2.2.2.2.2.1
def e_bb (E : ma_E) : Nat := E.2.2.2.2.2.2.1
def e_ll (E : ma_E) : Nat := E.2.2.2.2.2.2.2.1
def e_xs (E : ma_E) : Nat → Int32 := E.2.2.2.2.2.2.2.2
def ma_sp (E : ma_E) (k : Nat) : Value := if k = 2 then va_rf (e_fm E) else if k = 1 then .ref (e_bb E) else if k % 2 = 1 then .ref (e_ak E ((k - 3) / 2)) else .ref (e_av E ((k - 4) / 2))
def ma_v (E : ma_E) (v : ma_V) : Value := match v with
  | .inl x => .int x
  | .inr (.inl x) => .long x
  | .inr (.inr (.inl none)) => .null
  | .inr (.inr (.inl (some k))) => .ref (e_lo E + k)
  | .inr (.inr (.inr k)) => ma_sp E k
def ma_fv (E : ma_E) (w : ma_W) (o ci j : Nat) : Value := if ma_isr (ma_ty ci j) then va_rf ((ma_fr w o j).map (fun k => e_lo E + k)) else .int (ma_fi w o j)
def ma_av (E : ma_E) (w : ma_W) (k t : Nat) : (Nat → Int32) ⊕ (Nat → Int64) ⊕ (Nat → UInt32) ⊕ (Nat → UInt64) ⊕ (Nat → Option Nat) := match t with
  | 0 => .inl (ma_ai w k)
  | 1 => .inl (ma_ai w k)
  | 2 => .inr (.inl (ma_al w k))
  | _ => .inr (.inr (.inr (.inr (fun j => (ma_ar w k j).map (fun a => e_lo E + a)))))
def ma_ce (E : ma_E) (w : ma_W) (k : Nat) (x : ma_Sh) : va_E := match x with
  | .inl ci => .inr (ci, (List.range (ma_nf ci)).map (ma_fv E w k ci))
  | .inr q => .inl (e_cy E q.1, q.2, ma_av E w k q.1)
def ma_hp (E : ma_E) (w : ma_W) (H : Heap) : Prop := H.size = e_lo E + (ma_sh w).length ∧ ∀ (k : Nat) (x : ma_Sh), (ma_sh w)[k]? = some x → va_at (e_dd E) vwCl (e_lo E + k, ma_ce E w k x) H
def ma_A (E : ma_E) : Nat → Prop := fun q => e_lo E ≤ q
def ma_tys (E : ma_E) : List (ClassId × FieldType) := [(e_cy E 0, .int), (e_cy E 1, .byte), (e_cy E 2, .long), (e_cy E 3, .object RX1), (e_cy E 4, .object RX2)]
def ma_nws : List Jvm.Cond := [.methodLinkNest RX5 24 yX3_init RX5, .methodLinkNest RX5 47 yX0_init RX5, .methodLinkNest RX5 52 yX1_init RX5, .methodLinkNest RX5 53 yX2_init RX5, .methodLinkNest RX3 60 yX5_mostOfLaw RX5, .methodLinkNest RX4 80 yX5_held RX5, .methodLinkNest RX0 40 yX5_isUnder RX5]
def ma_stx : List (Nat × String) := [(109, "wind"), (111, "cold"), (113, "wet"), (115, "gale"), (121, "red"), (123, "yellow"), (125, "scarlet"), (127, "gold"), (129, "evergreen"), (131, "leaf"), (39, "sway"), (75, "is"), (83, "on"), (85, "hold"), (91, "sign")]
def ma_lens : List Nat := ma_tx1.map (fun l => l.length)
def ma_byts : List (List Int32) := ma_tx1.map (fun l => l.map Int32.ofNat)
/-- what of the machine stays as it is -/
def ma_en (E : ma_E) (U : State) (H : Heap) : Prop :=
  va_K (e_dd E) vwCl (ma_tys E) U ∧ va_X (e_bb E) (e_ll E) (e_xs E) U H ∧ e_bb E < e_lo E ∧ (∀ w ∈ ma_nws, va_Nw w U) ∧ (va_AO RX1 U ∧ va_AO RX2 U) ∧
  (∀ i, i < 15 → vk_R RX3 (ma_stx.getD i (0, "")).1 (ma_stx.getD i (0, "")).2 (e_ak E i) U) ∧ vk_S 15 ma_lens ma_byts (e_ak E) (e_av E) (ma_A E) U H ∧
  va_Z "java/lang/String" "COMPACT_STRINGS" "Z" (.int 1) (ma_A E) U H ∧ va_Z "jdk/internal/util/Preconditions" "SIOOBE_FORMATTER" "Ljava/util/function/BiFunction;" (va_rf (e_fm E)) (ma_A E) U H
theorem ma_nws_moved {s U : State} (hW : s.WarmedH U.vm) (h : ∀ w ∈ ma_nws, va_Nw w s) : ∀ w ∈ ma_nws, va_Nw w U := by
  intro w hw
  have h1 := h w hw
  simp only [ma_nws, List.mem_cons, List.not_mem_nil, or_false] at hw
  rcases hw with rfl | rfl | rfl | rfl | rfl | rfl | rfl <;> exact va_Nw.warmM hW h1
theorem ma_en_moved {E : ma_E} {s U : State} {H : Heap} (hW : s.WarmedH U.vm) (h : ma_en E s H) : ma_en E U H := by
  obtain ⟨h1, h2, h3, h4, h5, h6, h7, h8, h9⟩ := h
  exact ⟨va_K.moved hW.alike h1, va_X.moved hW.alike h2, h3, ma_nws_moved hW h4, ⟨va_AO.moved hW.alike h5.1, va_AO.moved hW.alike h5.2⟩, fun i hi => vk_R.warm hW (h6 i hi), vk_S.moved hW.alike h7, va_Z.moved hW.alike h8, va_Z.moved hW.alike h9⟩
theorem ma_en_same {E : ma_E} {s U : State} {H : Heap} (hv : s.vm = U.vm) (h : ma_en E s H) : ma_en E U H := by
  obtain ⟨h1, h2, h3, h4, h5, h6, h7, h8, h9⟩ := h
  have hA : s.vm.Alike U.vm := by rw [hv]; exact Vm.Alike.refl _
  refine ⟨va_K.moved hA h1, va_X.moved hA h2, h3, fun w hw => ?_, ⟨va_AO.moved hA h5.1, va_AO.moved hA h5.2⟩, fun i hi => vk_R.same hv.symm (h6 i hi), vk_S.moved hA h7, va_Z.moved hA h8, va_Z.moved hA h9⟩
  have h10 := h4 w hw
  simp only [ma_nws, List.mem_cons, List.not_mem_nil, or_false] at hw
  rcases hw with rfl | rfl | rfl | rfl | rfl | rfl | rfl <;> exact va_Nw.same rfl hv h10
theorem ma_en_kept {E : ma_E} {s : State} {H H1 : Heap} (hz : e_lo E ≤ H.size) (hk : ∀ q, q < e_lo E → H1[q]? = H[q]?) (h : ma_en E s H) : ma_en E s H1 := by
  obtain ⟨h1, h2, h3, h4, h5, h6, h7, h8, h9⟩ := h
  have hq : ∀ a : Nat, a < H.size → ¬ ma_A E a → H1[a]? = H[a]? := fun a _ h => hk a (Nat.not_le.mp h)
  exact ⟨h1, va_X.kept h2 (hk _ h3), h3, h4, h5, h6, vk_S.kept h7 hq, va_Z.kept h8 hq, va_Z.kept h9 hq⟩
/-- locals -/
def ma_df (v : ma_V) : Bool := match v with
  | .inr (.inr (.inr 0)) => false
  | _ => true
def ma_Ls (E : ma_E) (la : Array Slot) (nL : Nat) (ls : List ma_V) : Prop := la.size = nL ∧ lv_wf la ∧ ls.length = nL ∧ ∀ (j : Nat) (v : ma_V), ls[j]? = some v → ma_df v = true → la[j]? = some (.val (ma_v E v))
def ma_ll (E : ma_E) (ls : List ma_V) : List (Nat × Value) := (List.range ls.length).filterMap (fun j => match ls[j]? with
  | some v => if ma_df v then some (j, ma_v E v) else none
  | none => none)
theorem ma_ll_mem {E : ma_E} {ls : List ma_V} {j : Nat} {x : Value} : (j, x) ∈ ma_ll E ls ↔ ∃ v, ls[j]? = some v ∧ ma_df v = true ∧ x = ma_v E v := by
  unfold ma_ll
  constructor
  · intro h
    obtain ⟨i, -, hi⟩ := List.mem_filterMap.mp h
    cases hv : ls[i]? with
    | none => simp [hv] at hi
    | some v =>
      simp only [hv] at hi
      by_cases hd : ma_df v = true
      · rw [if_pos hd] at hi
        cases hi
        exact ⟨v, hv, hd, rfl⟩
      · rw [if_neg hd] at hi
        cases hi
  · rintro ⟨v, h1, h2, rfl⟩
    refine List.mem_filterMap.mpr ⟨j, List.mem_range.mpr (List.getElem?_eq_some_iff.mp h1).1, ?_⟩
    simp only [h1, h2, if_true]
theorem ma_Ls.has {E : ma_E} {la : Array Slot} {nL : Nat} {ls : List ma_V} (h : ma_Ls E la nL ls) : lv_has la nL (ma_ll E ls) := by
  refine ⟨h.1, h.2.1, fun q hq => ?_⟩
  obtain ⟨v, h1, h2, h3⟩ := ma_ll_mem.mp hq
  rw [h3]
  exact h.2.2.2 q.1 v h1 h2
theorem ma_kill_len (ls : List ma_V) (k : Nat) : (ma_kill ls k).length = ls.length := by
  unfold ma_kill
  split
  · rfl
  · split
    · simp
    · rfl
theorem ma_v_cat {E : ma_E} {v : ma_V} (h : ∀ x, v ≠ vL x) : (ma_v E v).category = 1 := by
  match v, h with
  | .inl x, _ => rfl
  | .inr (.inl x), h => exact absurd rfl (h x)
  | .inr (.inr (.inl none)), _ => rfl
  | .inr (.inr (.inl (some k))), _ => rfl
  | .inr (.inr (.inr k)), _ =>
    show (ma_sp E k).category = 1
    unfold ma_sp
    repeat' split
    · cases e_fm E <;> rfl
    all_goals rfl
theorem ma_kill_get {ls : List ma_V} {k j : Nat} {u : ma_V} (h : (ma_kill ls k)[j]? = some u) (hd : ma_df u = true) : ls[j]? = some u ∧ ¬ (j + 1 = k ∧ ∃ x, u = vL x) := by
  unfold ma_kill at h
  split at h
  · exact ⟨h, fun q => by omega⟩
  · next i =>
    split at h
    · next x hx =>
      by_cases hj : j = i
      · subst hj
        rw [List.getElem?_set_self (List.getElem?_eq_some_iff.mp hx).1] at h
        cases h
        cases hd
      · rw [List.getElem?_set_ne (Ne.symm hj)] at h
        exact ⟨h, fun q => hj (by omega)⟩
    · next hx =>
      refine ⟨h, fun q => ?_⟩
      obtain ⟨q1, x, rfl⟩ := q
      have : j = i := by omega
      subst this
      exact hx x h
theorem ma_Ls.st1 {E : ma_E} {la la' : Array Slot} {nL k : Nat} {ls : List ma_V} {v : ma_V} (h0 : ma_Ls E la nL ls) (h : lv_has la' nL ((k, ma_v E v) :: (ma_ll E ls).filter (fun q => !(q.1 == k) && !(q.1 + 1 == k && q.2.category == 2)))) : ma_Ls E la' nL ((ma_kill ls k).set k v) := by
  refine ⟨h.1, h.2.1, by rw [List.length_set, ma_kill_len]; exact h0.2.2.1, fun j u hj hd => ?_⟩
  by_cases hjk : j = k
  · subst hjk
    have hlt : j < (ma_kill ls j).length := by
      have := (List.getElem?_eq_some_iff.mp hj).1
      rwa [List.length_set] at this
    rw [List.getElem?_set_self hlt] at hj
    cases hj
    exact h.2.2 (j, ma_v E v) List.mem_cons_self
  · rw [List.getElem?_set_ne (Ne.symm hjk)] at hj
    obtain ⟨h1, h2⟩ := ma_kill_get hj hd
    refine h.2.2 (j, ma_v E u) (List.mem_cons_of_mem _ (List.mem_filter.mpr ⟨ma_ll_mem.mpr ⟨u, h1, hd, rfl⟩, ?_⟩))
    by_cases hj1 : j + 1 = k
    · have hc : (ma_v E u).category = 1 := ma_v_cat (fun x hx => h2 ⟨hj1, x, hx⟩)
      simp [hjk, hc]
    · simp [hjk, hj1]
theorem ma_Ls.st2 {E : ma_E} {la la' : Array Slot} {nL k : Nat} {ls : List ma_V} {x : Int64} (h0 : ma_Ls E la nL ls) (h : lv_has la' nL ((k, Value.long x) :: (ma_ll E ls).filter (fun q => !(q.1 == k) && (!(q.1 == k + 1) && !(q.1 + 1 == k && q.2.category == 2))))) : ma_Ls E la' nL (((ma_kill ls k).set k (vL x)).set (k + 1) (vS 0)) := by
  refine ⟨h.1, h.2.1, by rw [List.length_set, List.length_set, ma_kill_len]; exact h0.2.2.1, fun j u hj hd => ?_⟩
  by_cases hjk1 : j = k + 1
  · subst hjk1
    have hlt := (List.getElem?_eq_some_iff.mp hj).1
    rw [List.length_set] at hlt
    rw [List.getElem?_set_self hlt] at hj
    cases hj
    cases hd
  · rw [List.getElem?_set_ne (Ne.symm hjk1)] at hj
    by_cases hjk : j = k
    · subst hjk
      have hlt : j < (ma_kill ls j).length := by
        have := (List.getElem?_eq_some_iff.mp hj).1
        rwa [List.length_set] at this
      rw [List.getElem?_set_self hlt] at hj
      cases hj
      exact h.2.2 (j, Value.long x) List.mem_cons_self
    · rw [List.getElem?_set_ne (Ne.symm hjk)] at hj
      obtain ⟨h1, h2⟩ := ma_kill_get hj hd
      refine h.2.2 (j, ma_v E u) (List.mem_cons_of_mem _ (List.mem_filter.mpr ⟨ma_ll_mem.mpr ⟨u, h1, hd, rfl⟩, ?_⟩))
      by_cases hj1 : j + 1 = k
      · have hc : (ma_v E u).category = 1 := ma_v_cat (fun x hx => h2 ⟨hj1, x, hx⟩)
        simp [hjk, hjk1, hc]
      · simp [hjk, hjk1, hj1]
/-- the tables' words that may stand in a method's list -/
def ma_big : List Jvm.Cond := lw_tbl.filter goodWord
/-- where the machine stands in a method -/
def ma_Cx (E : ma_E) (p : Program) (R : Room) (s : State) (m : MethodId) (args : Array Value) (meth : Method) (c : Code) (cc : ByteArray) (nL own lv : Nat) (ini : Bool) : Prop :=
  p.tables.exec = Jvm.exec ∧ c.code = cc ∧ c.maxLocals = nL ∧ s.vm.findClass (ma_on own) = some m.cls ∧ (∀ w ∈ ma_big, w.before args s = true) ∧ ma_en E s s.heap ∧ e_lo E ≤ s.heap.size ∧ lv ≤ R.frames ∧ 36 * lv ≤ R.locals ∧ (ini = true → meth.name = "<init>")
def ma_In (E : ma_E) (w : ma_W) (s : State) (H : Heap) (locs : List Loc) : Prop := ma_hp E w H ∧ va_S (ma_A E) s.heap H locs
/-- from here on it goes well -/
def ma_G (E : ma_E) (p : Program) (l : Launch) (e : Env) (R : Room) (s : State) (m : MethodId) (args : Array Value) (below : List Frame) (meth : Method) (c : Code) (nL : Nat) (Q : State → Prop) (pc : Nat) (ls st : List ma_V) (w : ma_W) (cells slots : Nat) : Prop :=
  ∀ (H : Heap) (locs : List Loc) (la : Array Slot), ma_In E w s H locs → ma_Ls E la nL ls → W p l e R s m args below meth c H locs cells slots Q (F0 m pc la (st.map (ma_v E)))
/-- a step of the small machine is one of the great one -/
def ma_Snd (E : ma_E) (cc : ByteArray) (own lv : Nat) (ini : Bool) (pc : Nat) (f : ma_F) : Prop :=
  (∀ (c c' : _), f c = some c' → ∃ t, ma_sh c'.2.2.2 = ma_sh c.2.2 ++ t) ∧
  ∀ {p : Program} {l : Launch} {e : Env} {R : Room} {s : State} {m : MethodId} {args : Array Value} {below : List Frame} {meth : Method} {c : Code} {nL : Nat} {Q : State → Prop} {cells slots : Nat} {ls st : List ma_V} {w : ma_W} {r : Nat × ma_C},
    ma_Cx E p R s m args meth c cc nL own lv ini → ls.length = nL → f (ls, st, w) = some r → cells ≤ R.cells → slots ≤ R.slots →
    cells + ((ma_sh r.2.2.2).length - (ma_sh w).length) ≤ R.cells → slots + (ma_szs (ma_sh r.2.2.2) - ma_szs (ma_sh w)) ≤ R.slots →
    ma_G E p l e R s m args below meth c nL Q r.1 r.2.1 r.2.2.1 r.2.2.2 (cells + ((ma_sh r.2.2.2).length - (ma_sh w).length)) (slots + (ma_szs (ma_sh r.2.2.2) - ma_szs (ma_sh w))) →
    ma_G E p l e R s m args below meth c nL Q pc ls st w cells slots
end
section
/-! ===== steps that leave the world as it is ===== -/
theorem ma_snd0 {E : ma_E} {cc : ByteArray} {own lv pc : Nat} {ini : Bool} {f : ma_F}
    (hw : ∀ c c', f c = some c' → c'.2.2.2 = c.2.2)
    (h : ∀ {p : Program} {l : Launch} {e : Env} {R : Room} {s : State} {m : MethodId} {args : Array Value} {below : List Frame} {meth : Method} {c : Code} {nL : Nat} {Q : State → Prop} {cells slots : Nat} {ls st : List ma_V} {w : ma_W} {r : Nat × ma_C},
      ma_Cx E p R s m args meth c cc nL own lv ini → ls.length = nL → f (ls, st, w) = some r → cells ≤ R.cells → slots ≤ R.slots → ma_G E p l e R s m args below meth c nL Q r.1 r.2.1 r.2.2.1 w cells slots → ma_G E p l e R s m args below meth c nL Q pc ls st w cells slots) : ma_Snd E cc own lv ini pc f := by
  refine ⟨fun c c' hc => ⟨[], by rw [hw c c' hc, List.append_nil]⟩, ?_⟩
  intro p l e R s m args below meth c nL Q cells slots ls st w r hx hl hf h1 h2 h3 h4 k
  have e1 : r.2.2.2 = w := hw _ _ hf
  rw [e1, Nat.sub_self, Nat.sub_self, Nat.add_zero, Nat.add_zero] at k
  exact h hx hl hf h1 h2 k
section S7
variable {E : ma_E} {cc : ByteArray} {own lv pc : Nat} {ini : Bool}
theorem sn_ild_n {k : Fin 4} (hd : decode cc pc = .ok (.iload_n k, 1)) : ma_Snd E cc own lv ini pc (i_ild k.val (pc + 1)) := by
  refine ma_snd0 (fun c c' h => ?_) ?_
  · unfold i_ild at h; split at h <;> cases h; rfl
  · intro p l e R s m args below meth c nL Q cells slots ls st w r hx hl hf _ _ kk H locs la hI hL
    unfold i_ild at hf; split at hf <;> cases hf
    next x hk => exact lv_iload_n hx.1 hx.2.1 hd rfl (hL.2.2.2 _ _ hk rfl) (kk H locs la hI hL)
theorem sn_ild {k : Nat} (hd : decode cc pc = .ok (.iload k, 2)) : ma_Snd E cc own lv ini pc (i_ild k (pc + 2)) := by
  refine ma_snd0 (fun c c' h => ?_) ?_
  · unfold i_ild at h; split at h <;> cases h; rfl
  · intro p l e R s m args below meth c nL Q cells slots ls st w r hx hl hf _ _ kk H locs la hI hL
    unfold i_ild at hf; split at hf <;> cases hf
    next x hk => exact lv_iload hx.1 hx.2.1 hd (hL.2.2.2 _ _ hk rfl) (kk H locs la hI hL)
theorem sn_lld_n {k : Fin 4} (hd : decode cc pc = .ok (.lload_n k, 1)) : ma_Snd E cc own lv ini pc (i_lld k.val (pc + 1)) := by
  refine ma_snd0 (fun c c' h => ?_) ?_
  · unfold i_lld at h; split at h <;> cases h; rfl
  · intro p l e R s m args below meth c nL Q cells slots ls st w r hx hl hf _ _ kk H locs la hI hL
    unfold i_lld at hf; split at hf <;> cases hf
    next x hk => exact lv_lload_n hx.1 hx.2.1 hd rfl (hL.2.2.2 _ _ hk rfl) (kk H locs la hI hL)
theorem sn_lld {k : Nat} (hd : decode cc pc = .ok (.lload k, 2)) : ma_Snd E cc own lv ini pc (i_lld k (pc + 2)) := by
  refine ma_snd0 (fun c c' h => ?_) ?_
  · unfold i_lld at h; split at h <;> cases h; rfl
  · intro p l e R s m args below meth c nL Q cells slots ls st w r hx hl hf _ _ kk H locs la hI hL
    unfold i_lld at hf; split at hf <;> cases hf
    next x hk => exact lv_lload hx.1 hx.2.1 hd (hL.2.2.2 _ _ hk rfl) (kk H locs la hI hL)
theorem ma_sp_ref {a : Nat} (h : a = 1 ∨ 3 ≤ a) : ∃ q, ma_sp E a = .ref q := by
  unfold ma_sp
  rw [if_neg (by omega)]
  repeat' split
  all_goals exact ⟨_, rfl⟩
theorem ma_sp_df {a : Nat} (h : a = 1 ∨ 3 ≤ a) : ma_df (vS a) = true := by
  match a, h with
  | 0, h => omega
  | n + 1, _ => rfl
theorem sn_ald_n {k : Fin 4} (hd : decode cc pc = .ok (.aload_n k, 1)) : ma_Snd E cc own lv ini pc (i_ald k.val (pc + 1)) := by
  refine ma_snd0 (fun c c' h => ?_) ?_
  · unfold i_ald at h
    split at h
    · cases h; rfl
    · split at h <;> cases h; rfl
    · cases h
  · intro p l e R s m args below meth c nL Q cells slots ls st w r hx hl hf _ _ kk H locs la hI hL
    unfold i_ald at hf
    split at hf
    · next a hk => cases hf; exact lv_aload_n hx.1 hx.2.1 hd rfl (hL.2.2.2 _ _ hk rfl) (kk H locs la hI hL)
    · next a hk =>
      split at hf <;> cases hf
      next ha =>
      obtain ⟨q, hq⟩ := ma_sp_ref (E := E) ha
      have h1 := hL.2.2.2 _ _ hk (ma_sp_df ha)
      have h2 : ma_v E (vS a) = .ref q := hq
      have h3 := kk H locs la hI hL
      rw [h2] at h1
      rw [List.map_cons, h2] at h3
      exact lv_aload_n hx.1 hx.2.1 hd rfl h1 h3
    · cases hf
theorem sn_ald {k : Nat} (hd : decode cc pc = .ok (.aload k, 2)) : ma_Snd E cc own lv ini pc (i_ald k (pc + 2)) := by
  refine ma_snd0 (fun c c' h => ?_) ?_
  · unfold i_ald at h
    split at h
    · cases h; rfl
    · split at h <;> cases h; rfl
    · cases h
  · intro p l e R s m args below meth c nL Q cells slots ls st w r hx hl hf _ _ kk H locs la hI hL
    unfold i_ald at hf
    split at hf
    · next a hk => cases hf; exact lv_aload hx.1 hx.2.1 hd (hL.2.2.2 _ _ hk rfl) (kk H locs la hI hL)
    · next a hk =>
      split at hf <;> cases hf
      next ha =>
      obtain ⟨q, hq⟩ := ma_sp_ref (E := E) ha
      have h1 := hL.2.2.2 _ _ hk (ma_sp_df ha)
      have h2 : ma_v E (vS a) = .ref q := hq
      have h3 := kk H locs la hI hL
      rw [h2] at h1
      rw [List.map_cons, h2] at h3
      exact lv_aload hx.1 hx.2.1 hd h1 h3
    · cases hf
theorem sn_ist_n {k : Fin 4} (hd : decode cc pc = .ok (.istore_n k, 1)) : ma_Snd E cc own lv ini pc (i_ist k.val (pc + 1)) := by
  refine ma_snd0 (fun c c' h => ?_) ?_
  · unfold i_ist at h
    split at h
    · split at h <;> cases h; rfl
    · cases h
  · intro p l e R s m args below meth c nL Q cells slots ls st w r hx hl hf _ _ kk H locs la hI hL
    unfold i_ist at hf
    split at hf
    · next x st' hs =>
      split at hf <;> cases hf
      next hk =>
      dsimp only at hs hk
      subst hs
      exact lv_istore_n hx.1 hx.2.1 hd rfl hL.has (by omega) rfl (fun la' hl' => kk H locs la' hI (hL.st1 (v := vI x) hl'))
    · cases hf
theorem sn_ist {k : Nat} (hd : decode cc pc = .ok (.istore k, 2)) : ma_Snd E cc own lv ini pc (i_ist k (pc + 2)) := by
  refine ma_snd0 (fun c c' h => ?_) ?_
  · unfold i_ist at h
    split at h
    · split at h <;> cases h; rfl
    · cases h
  · intro p l e R s m args below meth c nL Q cells slots ls st w r hx hl hf _ _ kk H locs la hI hL
    unfold i_ist at hf
    split at hf
    · next x st' hs =>
      split at hf <;> cases hf
      next hk =>
      dsimp only at hs hk
      subst hs
      exact lv_istore hx.1 hx.2.1 hd hL.has (by omega) rfl (fun la' hl' => kk H locs la' hI (hL.st1 (v := vI x) hl'))
    · cases hf
theorem sn_lst_n {k : Fin 4} (hd : decode cc pc = .ok (.lstore_n k, 1)) : ma_Snd E cc own lv ini pc (i_lst k.val (pc + 1)) := by
  refine ma_snd0 (fun c c' h => ?_) ?_
  · unfold i_lst at h
    split at h
    · split at h <;> cases h; rfl
    · cases h
  · intro p l e R s m args below meth c nL Q cells slots ls st w r hx hl hf _ _ kk H locs la hI hL
    unfold i_lst at hf
    split at hf
    · next x st' hs =>
      split at hf <;> cases hf
      next hk =>
      dsimp only at hs hk
      subst hs
      exact lv_lstore_n hx.1 hx.2.1 hd rfl hL.has (by omega) rfl (fun la' hl' => kk H locs la' hI (hL.st2 hl'))
    · cases hf
theorem sn_lst {k : Nat} (hd : decode cc pc = .ok (.lstore k, 2)) : ma_Snd E cc own lv ini pc (i_lst k (pc + 2)) := by
  refine ma_snd0 (fun c c' h => ?_) ?_
  · unfold i_lst at h
    split at h
    · split at h <;> cases h; rfl
    · cases h
  · intro p l e R s m args below meth c nL Q cells slots ls st w r hx hl hf _ _ kk H locs la hI hL
    unfold i_lst at hf
    split at hf
    · next x st' hs =>
      split at hf <;> cases hf
      next hk =>
      dsimp only at hs hk
      subst hs
      exact lv_lstore hx.1 hx.2.1 hd hL.has (by omega) rfl (fun la' hl' => kk H locs la' hI (hL.st2 hl'))
    · cases hf
theorem sn_ast_w {k n : Nat} (c c') (h : i_ast k n c = some c') : c'.2.2.2 = c.2.2 := by
  unfold i_ast at h
  split at h
  · split at h <;> cases h; rfl
  · split at h <;> cases h; rfl
  · cases h
theorem sn_ast_n {k : Fin 4} (hd : decode cc pc = .ok (.astore_n k, 1)) : ma_Snd E cc own lv ini pc (i_ast k.val (pc + 1)) := by
  refine ma_snd0 sn_ast_w ?_
  intro p l e R s m args below meth c nL Q cells slots ls st w r hx hl hf _ _ kk H locs la hI hL
  unfold i_ast at hf
  split at hf
  · next a st' hs =>
    split at hf <;> cases hf
    next hk =>
    dsimp only at hs hk
    subst hs
    exact lv_astore_n hx.1 hx.2.1 hd rfl hL.has (by omega) rfl (fun la' hl' => kk H locs la' hI (hL.st1 (v := vR a) hl'))
  · next a st' hs =>
    split at hf <;> cases hf
    next hk =>
    dsimp only at hs hk
    subst hs
    obtain ⟨q, hq⟩ := ma_sp_ref (E := E) hk.2
    have h2 : ma_v E (vS a) = .ref q := hq
    show W p l e R s m args below meth c H locs cells slots Q (F0 m pc la (ma_v E (vS a) :: st'.map (ma_v E)))
    rw [h2]
    exact lv_astore_n hx.1 hx.2.1 hd rfl hL.has (by omega) rfl (fun la' hl' => kk H locs la' hI (hL.st1 (v := vS a) (by rw [h2]; exact hl')))
  · cases hf
theorem sn_ast {k : Nat} (hd : decode cc pc = .ok (.astore k, 2)) : ma_Snd E cc own lv ini pc (i_ast k (pc + 2)) := by
  refine ma_snd0 sn_ast_w ?_
  intro p l e R s m args below meth c nL Q cells slots ls st w r hx hl hf _ _ kk H locs la hI hL
  unfold i_ast at hf
  split at hf
  · next a st' hs =>
    split at hf <;> cases hf
    next hk =>
    dsimp only at hs hk
    subst hs
    exact lv_astore hx.1 hx.2.1 hd hL.has (by omega) rfl (fun la' hl' => kk H locs la' hI (hL.st1 (v := vR a) hl'))
  · next a st' hs =>
    split at hf <;> cases hf
    next hk =>
    dsimp only at hs hk
    subst hs
    obtain ⟨q, hq⟩ := ma_sp_ref (E := E) hk.2
    have h2 : ma_v E (vS a) = .ref q := hq
    show W p l e R s m args below meth c H locs cells slots Q (F0 m pc la (ma_v E (vS a) :: st'.map (ma_v E)))
    rw [h2]
    exact lv_astore hx.1 hx.2.1 hd hL.has (by omega) rfl (fun la' hl' => kk H locs la' hI (hL.st1 (v := vS a) (by rw [h2]; exact hl')))
  · cases hf
theorem sn_inc {k : Nat} {d : Int} (hd : decode cc pc = .ok (.iinc k d, 3)) : ma_Snd E cc own lv ini pc (i_inc k d (pc + 3)) := by
  refine ma_snd0 (fun c c' h => ?_) ?_
  · unfold i_inc at h; split at h <;> cases h; rfl
  · intro p l e R s m args below meth c nL Q cells slots ls st w r hx hl hf _ _ kk H locs la hI hL
    unfold i_inc at hf; split at hf <;> cases hf
    next x hk =>
    dsimp only at hk
    obtain ⟨j, hj⟩ := List.getElem?_of_mem (ma_ll_mem (E := E).mpr ⟨_, hk, rfl, rfl⟩)
    have hlt := (List.getElem?_eq_some_iff.mp hk).1
    exact lv_iinc hx.1 hx.2.1 hd hL.has (k := j) (x := x) hj rfl (by omega) rfl (fun la' hl' => kk H locs la' hI (hL.st1 (v := vI (x + Int32.ofInt d)) hl'))
theorem sn_con_w {v : Int32} {n : Nat} (c c') (h : i_con v n c = some c') : c'.2.2.2 = c.2.2 := by cases h; rfl
theorem sn_iconst {n : Int} (hd : decode cc pc = .ok (.iconst n, 1)) : ma_Snd E cc own lv ini pc (i_con (Int32.ofInt n) (pc + 1)) := by
  refine ma_snd0 sn_con_w ?_
  intro p l e R s m args below meth c nL Q cells slots ls st w r hx hl hf _ _ kk H locs la hI hL
  cases hf
  exact lv_iconst hx.1 hx.2.1 hd rfl (kk H locs la hI hL)
theorem sn_bipush {n : Int} (hd : decode cc pc = .ok (.bipush n, 2)) : ma_Snd E cc own lv ini pc (i_con (Int8.ofInt n).toInt32 (pc + 2)) := by
  refine ma_snd0 sn_con_w ?_
  intro p l e R s m args below meth c nL Q cells slots ls st w r hx hl hf _ _ kk H locs la hI hL
  cases hf
  exact lv_bipush hx.1 hx.2.1 hd rfl (kk H locs la hI hL)
theorem sn_sipush {n : Int} (hd : decode cc pc = .ok (.sipush n, 3)) : ma_Snd E cc own lv ini pc (i_con (Int16.ofInt n).toInt32 (pc + 3)) := by
  refine ma_snd0 sn_con_w ?_
  intro p l e R s m args below meth c nL Q cells slots ls st w r hx hl hf _ _ kk H locs la hI hL
  cases hf
  exact lv_sipush hx.1 hx.2.1 hd rfl (kk H locs la hI hL)
theorem sn_lcn_w {v : Int64} {n : Nat} (c c') (h : i_lcn v n c = some c') : c'.2.2.2 = c.2.2 := by cases h; rfl
theorem sn_lconst {n : Fin 2} (hd : decode cc pc = .ok (.lconst n, 1)) : ma_Snd E cc own lv ini pc (i_lcn (Int64.ofNat n.val) (pc + 1)) := by
  refine ma_snd0 sn_lcn_w ?_
  intro p l e R s m args below meth c nL Q cells slots ls st w r hx hl hf _ _ kk H locs la hI hL
  cases hf
  exact lv_lconst hx.1 hx.2.1 hd rfl (kk H locs la hI hL)
theorem sn_ldc {i : Nat} {v : Int32} (hw : Jvm.Cond.constant (ma_on own) i v ∈ ma_big) (hd : decode cc pc = .ok (.ldc i, 2)) : ma_Snd E cc own lv ini pc (i_con v (pc + 2)) := by
  refine ma_snd0 sn_con_w ?_
  intro p l e R s m args below meth c nL Q cells slots ls st w r hx hl hf _ _ kk H locs la hI hL
  cases hf
  exact lv_ldc hx.1 hx.2.1 hx.2.2.2.1 (hx.2.2.2.2.1 _ hw) hd (kk H locs la hI hL)
theorem sn_ldcw {i : Nat} {v : Int32} (hw : Jvm.Cond.constant (ma_on own) i v ∈ ma_big) (hd : decode cc pc = .ok (.ldc_w i, 3)) : ma_Snd E cc own lv ini pc (i_con v (pc + 3)) := by
  refine ma_snd0 sn_con_w ?_
  intro p l e R s m args below meth c nL Q cells slots ls st w r hx hl hf _ _ kk H locs la hI hL
  cases hf
  exact lv_ldcw hx.1 hx.2.1 hx.2.2.2.1 (hx.2.2.2.2.1 _ hw) hd (kk H locs la hI hL)
theorem sn_ldc2 {i : Nat} {v : Int64} (hw : Jvm.Cond.constantLong (ma_on own) i v ∈ ma_big) (hd : decode cc pc = .ok (.ldc2_w i, 3)) : ma_Snd E cc own lv ini pc (i_lcn v (pc + 3)) := by
  refine ma_snd0 sn_lcn_w ?_
  intro p l e R s m args below meth c nL Q cells slots ls st w r hx hl hf _ _ kk H locs la hI hL
  cases hf
  exact lv_ldc2 hx.1 hx.2.1 hx.2.2.2.1 (hx.2.2.2.2.1 _ hw) hd (kk H locs la hI hL)
end S7
end
section
/-! ===== arithmetic, jumps, switches ===== -/
section S8
variable {E : ma_E} {cc : ByteArray} {own lv pc : Nat} {ini : Bool}
theorem sn_bin {F : Int32 → Int32 → Int32} {n : Nat}
    (h : ∀ {p : Program} {l : Launch} {e : Env} {R : Room} {s : State} {m : MethodId} {args : Array Value} {below : List Frame} {meth : Method} {c : Code} {H : Heap} {locs : List Loc} {cells slots : Nat} {Q : State → Prop} {la : Array Slot} {rest : List Value} {x y : Int32}, p.tables.exec = Jvm.exec → c.code = cc → W p l e R s m args below meth c H locs cells slots Q (F0 m n la (.int (F x y) :: rest)) → W p l e R s m args below meth c H locs cells slots Q (F0 m pc la (.int y :: .int x :: rest))) : ma_Snd E cc own lv ini pc (i_bin F n) := by
  refine ma_snd0 (fun c c' h => ?_) ?_
  · unfold i_bin at h; split at h <;> cases h; rfl
  · intro p l e R s m args below meth c nL Q cells slots ls st w r hx hl hf _ _ kk H locs la hI hL
    unfold i_bin at hf; split at hf <;> cases hf
    next y x st' hs =>
    dsimp only at hs
    subst hs
    exact h hx.1 hx.2.1 (kk H locs la hI hL)
theorem sn_dvi {F : Int32 → Int32 → Int32} {n : Nat}
    (h : ∀ {p : Program} {l : Launch} {e : Env} {R : Room} {s : State} {m : MethodId} {args : Array Value} {below : List Frame} {meth : Method} {c : Code} {H : Heap} {locs : List Loc} {cells slots : Nat} {Q : State → Prop} {la : Array Slot} {rest : List Value} {x y : Int32}, p.tables.exec = Jvm.exec → c.code = cc → ¬ y = 0 → W p l e R s m args below meth c H locs cells slots Q (F0 m n la (.int (F x y) :: rest)) → W p l e R s m args below meth c H locs cells slots Q (F0 m pc la (.int y :: .int x :: rest))) : ma_Snd E cc own lv ini pc (i_dvi F n) := by
  refine ma_snd0 (fun c c' h => ?_) ?_
  · unfold i_dvi at h
    split at h
    · split at h <;> cases h; rfl
    · cases h
  · intro p l e R s m args below meth c nL Q cells slots ls st w r hx hl hf _ _ kk H locs la hI hL
    unfold i_dvi at hf
    split at hf
    · next y x st' hs =>
      split at hf <;> cases hf
      next hy =>
      dsimp only at hs
      subst hs
      exact h hx.1 hx.2.1 hy (kk H locs la hI hL)
    · cases hf
theorem sn_lbn {F : Int64 → Int64 → Int64} {n : Nat}
    (h : ∀ {p : Program} {l : Launch} {e : Env} {R : Room} {s : State} {m : MethodId} {args : Array Value} {below : List Frame} {meth : Method} {c : Code} {H : Heap} {locs : List Loc} {cells slots : Nat} {Q : State → Prop} {la : Array Slot} {rest : List Value} {x y : Int64}, p.tables.exec = Jvm.exec → c.code = cc → W p l e R s m args below meth c H locs cells slots Q (F0 m n la (.long (F x y) :: rest)) → W p l e R s m args below meth c H locs cells slots Q (F0 m pc la (.long y :: .long x :: rest))) : ma_Snd E cc own lv ini pc (i_lbn F n) := by
  refine ma_snd0 (fun c c' h => ?_) ?_
  · unfold i_lbn at h; split at h <;> cases h; rfl
  · intro p l e R s m args below meth c nL Q cells slots ls st w r hx hl hf _ _ kk H locs la hI hL
    unfold i_lbn at hf; split at hf <;> cases hf
    next y x st' hs =>
    dsimp only at hs
    subst hs
    exact h hx.1 hx.2.1 (kk H locs la hI hL)
theorem sn_ldv {F : Int64 → Int64 → Int64} {n : Nat}
    (h : ∀ {p : Program} {l : Launch} {e : Env} {R : Room} {s : State} {m : MethodId} {args : Array Value} {below : List Frame} {meth : Method} {c : Code} {H : Heap} {locs : List Loc} {cells slots : Nat} {Q : State → Prop} {la : Array Slot} {rest : List Value} {x y : Int64}, p.tables.exec = Jvm.exec → c.code = cc → ¬ y = 0 → W p l e R s m args below meth c H locs cells slots Q (F0 m n la (.long (F x y) :: rest)) → W p l e R s m args below meth c H locs cells slots Q (F0 m pc la (.long y :: .long x :: rest))) : ma_Snd E cc own lv ini pc (i_ldv F n) := by
  refine ma_snd0 (fun c c' h => ?_) ?_
  · unfold i_ldv at h
    split at h
    · split at h <;> cases h; rfl
    · cases h
  · intro p l e R s m args below meth c nL Q cells slots ls st w r hx hl hf _ _ kk H locs la hI hL
    unfold i_ldv at hf
    split at hf
    · next y x st' hs =>
      split at hf <;> cases hf
      next hy =>
      dsimp only at hs
      subst hs
      exact h hx.1 hx.2.1 hy (kk H locs la hI hL)
    · cases hf
theorem sn_lsh {F : Int64 → Int32 → Int64} {n : Nat}
    (h : ∀ {p : Program} {l : Launch} {e : Env} {R : Room} {s : State} {m : MethodId} {args : Array Value} {below : List Frame} {meth : Method} {c : Code} {H : Heap} {locs : List Loc} {cells slots : Nat} {Q : State → Prop} {la : Array Slot} {rest : List Value} {x : Int64} {y : Int32}, p.tables.exec = Jvm.exec → c.code = cc → W p l e R s m args below meth c H locs cells slots Q (F0 m n la (.long (F x y) :: rest)) → W p l e R s m args below meth c H locs cells slots Q (F0 m pc la (.int y :: .long x :: rest))) : ma_Snd E cc own lv ini pc (i_lsh F n) := by
  refine ma_snd0 (fun c c' h => ?_) ?_
  · unfold i_lsh at h; split at h <;> cases h; rfl
  · intro p l e R s m args below meth c nL Q cells slots ls st w r hx hl hf _ _ kk H locs la hI hL
    unfold i_lsh at hf; split at hf <;> cases hf
    next y x st' hs =>
    dsimp only at hs
    subst hs
    exact h hx.1 hx.2.1 (kk H locs la hI hL)
theorem sn_lcp (hd : decode cc pc = .ok (.lcmp, 1)) : ma_Snd E cc own lv ini pc (i_lcp (pc + 1)) := by
  refine ma_snd0 (fun c c' h => ?_) ?_
  · unfold i_lcp at h; split at h <;> cases h; rfl
  · intro p l e R s m args below meth c nL Q cells slots ls st w r hx hl hf _ _ kk H locs la hI hL
    unfold i_lcp at hf; split at hf <;> cases hf
    next y x st' hs =>
    dsimp only at hs
    subst hs
    exact W.lcmp hx.1 hx.2.1 hd (kk H locs la hI hL)
theorem sn_una {F : Int32 → Int32} {n : Nat}
    (h : ∀ {p : Program} {l : Launch} {e : Env} {R : Room} {s : State} {m : MethodId} {args : Array Value} {below : List Frame} {meth : Method} {c : Code} {H : Heap} {locs : List Loc} {cells slots : Nat} {Q : State → Prop} {la : Array Slot} {rest : List Value} {x : Int32}, p.tables.exec = Jvm.exec → c.code = cc → W p l e R s m args below meth c H locs cells slots Q (F0 m n la (.int (F x) :: rest)) → W p l e R s m args below meth c H locs cells slots Q (F0 m pc la (.int x :: rest))) : ma_Snd E cc own lv ini pc (i_una F n) := by
  refine ma_snd0 (fun c c' h => ?_) ?_
  · unfold i_una at h; split at h <;> cases h; rfl
  · intro p l e R s m args below meth c nL Q cells slots ls st w r hx hl hf _ _ kk H locs la hI hL
    unfold i_una at hf; split at hf <;> cases hf
    next x st' hs =>
    dsimp only at hs
    subst hs
    exact h hx.1 hx.2.1 (kk H locs la hI hL)
theorem sn_i2l (hd : decode cc pc = .ok (.i2l, 1)) : ma_Snd E cc own lv ini pc (i_i2l (pc + 1)) := by
  refine ma_snd0 (fun c c' h => ?_) ?_
  · unfold i_i2l at h; split at h <;> cases h; rfl
  · intro p l e R s m args below meth c nL Q cells slots ls st w r hx hl hf _ _ kk H locs la hI hL
    unfold i_i2l at hf; split at hf <;> cases hf
    next x st' hs =>
    dsimp only at hs
    subst hs
    exact lv_i2l hx.1 hx.2.1 hd rfl (kk H locs la hI hL)
theorem sn_l2i (hd : decode cc pc = .ok (.l2i, 1)) : ma_Snd E cc own lv ini pc (i_l2i (pc + 1)) := by
  refine ma_snd0 (fun c c' h => ?_) ?_
  · unfold i_l2i at h; split at h <;> cases h; rfl
  · intro p l e R s m args below meth c nL Q cells slots ls st w r hx hl hf _ _ kk H locs la hI hL
    unfold i_l2i at hf; split at hf <;> cases hf
    next x st' hs =>
    dsimp only at hs
    subst hs
    exact lv_l2i hx.1 hx.2.1 hd rfl (kk H locs la hI hL)
theorem ma_c1_cat {v : ma_V} (h : ma_c1 v = true) : (ma_v E v).category = 1 := by
  refine ma_v_cat (fun x hx => ?_)
  subst hx
  cases h
theorem sn_dup (hd : decode cc pc = .ok (.dup, 1)) : ma_Snd E cc own lv ini pc (i_dup (pc + 1)) := by
  refine ma_snd0 (fun c c' h => ?_) ?_
  · unfold i_dup at h
    split at h
    · split at h <;> cases h; rfl
    · cases h
  · intro p l e R s m args below meth c nL Q cells slots ls st w r hx hl hf _ _ kk H locs la hI hL
    unfold i_dup at hf
    split at hf
    · next v st' hs =>
      split at hf <;> cases hf
      next hv =>
      dsimp only at hs
      subst hs
      exact lv_dup hx.1 hx.2.1 hd (ma_c1_cat hv) (kk H locs la hI hL)
    · cases hf
theorem sn_pop (hd : decode cc pc = .ok (.pop, 1)) : ma_Snd E cc own lv ini pc (i_pop (pc + 1)) := by
  refine ma_snd0 (fun c c' h => ?_) ?_
  · unfold i_pop at h
    split at h
    · split at h <;> cases h; rfl
    · cases h
  · intro p l e R s m args below meth c nL Q cells slots ls st w r hx hl hf _ _ kk H locs la hI hL
    unfold i_pop at hf
    split at hf
    · next v st' hs =>
      split at hf <;> cases hf
      next hv =>
      dsimp only at hs
      subst hs
      exact lv_pop hx.1 hx.2.1 hd (ma_c1_cat hv) (kk H locs la hI hL)
    · cases hf
theorem sn_du2 (hd : decode cc pc = .ok (.dup2, 1)) : ma_Snd E cc own lv ini pc (i_du2 (pc + 1)) := by
  refine ma_snd0 (fun c c' h => ?_) ?_
  · unfold i_du2 at h
    split at h
    · split at h <;> cases h; rfl
    · cases h
  · intro p l e R s m args below meth c nL Q cells slots ls st w r hx hl hf _ _ kk H locs la hI hL
    unfold i_du2 at hf
    split at hf
    · next v u st' hs =>
      split at hf <;> cases hf
      next hv =>
      dsimp only at hs
      subst hs
      rw [Bool.and_eq_true] at hv
      exact lv_dup2_11 hx.1 hx.2.1 hd (ma_c1_cat hv.1) (ma_c1_cat hv.2) (kk H locs la hI hL)
    · cases hf
theorem sn_tgt {off : Int} (h : 0 ≤ (pc : Int) + off) : (pc : Int) + off = (ma_tgt pc off : Int) := by
  unfold ma_tgt
  omega
theorem sn_if2 {k : Jvm.ClassFile.Cond} {off : Int} (hd : decode cc pc = .ok (.if_icmp k off, 3)) (h0 : 0 ≤ (pc : Int) + off) : ma_Snd E cc own lv ini pc (i_if2 (ma_cmp k) (ma_tgt pc off) (pc + 3)) := by
  refine ma_snd0 (fun c c' h => ?_) ?_
  · unfold i_if2 at h; split at h <;> cases h; rfl
  · intro p l e R s m args below meth c nL Q cells slots ls st w r hx hl hf _ _ kk H locs la hI hL
    unfold i_if2 at hf; split at hf <;> cases hf
    next y x st' hs =>
    dsimp only at hs
    subst hs
    have k1 := kk H locs la hI hL
    have ht := sn_tgt h0
    cases k with
    | eq => exact lv_icmp_eq hx.1 hx.2.1 hd ht (fun h => by simpa [ma_cmp, h] using k1) (fun h => by simpa [ma_cmp, h] using k1)
    | ne => exact lv_icmp_ne hx.1 hx.2.1 hd ht (fun h => by simpa [ma_cmp, h] using k1) (fun h => by simpa [ma_cmp, h] using k1)
    | lt => exact lv_icmp_lt hx.1 hx.2.1 hd ht (fun h => by simpa [ma_cmp, h] using k1) (fun h => by simpa [ma_cmp, h] using k1)
    | ge => exact lv_icmp_ge hx.1 hx.2.1 hd ht (fun h => by simpa [ma_cmp, h] using k1) (fun h => by simpa [ma_cmp, h] using k1)
    | gt => exact lv_icmp_gt hx.1 hx.2.1 hd ht (fun h => by simpa [ma_cmp, h] using k1) (fun h => by simpa [ma_cmp, h] using k1)
    | le => exact lv_icmp_le hx.1 hx.2.1 hd ht (fun h => by simpa [ma_cmp, h] using k1) (fun h => by simpa [ma_cmp, h] using k1)
theorem sn_if1 {k : Jvm.ClassFile.Cond} {off : Int} (hd : decode cc pc = .ok (.ifCond k off, 3)) (h0 : 0 ≤ (pc : Int) + off) : ma_Snd E cc own lv ini pc (i_if1 (ma_cm0 k) (ma_tgt pc off) (pc + 3)) := by
  refine ma_snd0 (fun c c' h => ?_) ?_
  · unfold i_if1 at h; split at h <;> cases h; rfl
  · intro p l e R s m args below meth c nL Q cells slots ls st w r hx hl hf _ _ kk H locs la hI hL
    unfold i_if1 at hf; split at hf <;> cases hf
    next x st' hs =>
    dsimp only at hs
    subst hs
    have k1 := kk H locs la hI hL
    have ht := sn_tgt h0
    cases k with
    | eq => exact lv_if_eq hx.1 hx.2.1 hd ht (fun h => by simpa [ma_cm0, h] using k1) (fun h => by simpa [ma_cm0, h] using k1)
    | ne => exact lv_if_ne hx.1 hx.2.1 hd ht (fun h => by simpa [ma_cm0, h] using k1) (fun h => by simpa [ma_cm0, h] using k1)
    | lt => exact lv_if_lt hx.1 hx.2.1 hd ht (fun h => by simpa [ma_cm0, h] using k1) (fun h => by simpa [ma_cm0, h] using k1)
    | ge => exact lv_if_ge hx.1 hx.2.1 hd ht (fun h => by simpa [ma_cm0, h] using k1) (fun h => by simpa [ma_cm0, h] using k1)
    | gt => exact lv_if_gt hx.1 hx.2.1 hd ht (fun h => by simpa [ma_cm0, h] using k1) (fun h => by simpa [ma_cm0, h] using k1)
    | le => exact lv_if_le hx.1 hx.2.1 hd ht (fun h => by simpa [ma_cm0, h] using k1) (fun h => by simpa [ma_cm0, h] using k1)
theorem sn_gto {off : Int} (hd : decode cc pc = .ok (.goto off, 3)) (h0 : 0 ≤ (pc : Int) + off) : ma_Snd E cc own lv ini pc (i_gto (ma_tgt pc off)) := by
  refine ma_snd0 (fun c c' h => by cases h; rfl) ?_
  intro p l e R s m args below meth c nL Q cells slots ls st w r hx hl hf _ _ kk H locs la hI hL
  cases hf
  exact lv_goto hx.1 hx.2.1 hd (sn_tgt h0) (kk H locs la hI hL)
theorem sn_swi {g : Int32 → Option Nat}
    (h : ∀ {p : Program} {l : Launch} {e : Env} {R : Room} {s : State} {m : MethodId} {args : Array Value} {below : List Frame} {meth : Method} {c : Code} {H : Heap} {locs : List Loc} {cells slots : Nat} {Q : State → Prop} {la : Array Slot} {rest : List Value} {x : Int32} {t : Nat}, p.tables.exec = Jvm.exec → c.code = cc → g x = some t → W p l e R s m args below meth c H locs cells slots Q (F0 m t la rest) → W p l e R s m args below meth c H locs cells slots Q (F0 m pc la (.int x :: rest))) : ma_Snd E cc own lv ini pc (i_swi g) := by
  refine ma_snd0 (fun c c' h => ?_) ?_
  · unfold i_swi at h
    split at h
    · split at h <;> cases h; rfl
    · cases h
  · intro p l e R s m args below meth c nL Q cells slots ls st w r hx hl hf _ _ kk H locs la hI hL
    unfold i_swi at hf
    split at hf
    · next x st' hs =>
      split at hf <;> cases hf
      next t ht =>
      dsimp only at hs
      subst hs
      exact h hx.1 hx.2.1 ht (kk H locs la hI hL)
    · cases hf
theorem sn_tsw {dflt lo hi : Int} {offs : Array Int} {len : Nat} (hd : decode cc pc = .ok (.tableswitch dflt lo hi offs, len)) : ma_Snd E cc own lv ini pc (i_swi (ma_tsw pc dflt lo hi offs)) := by
  refine sn_swi ?_
  intro p l e R s m args below meth c H locs cells slots Q la rest x t hx hb ht kk
  unfold ma_tsw at ht
  by_cases hc : x.toInt < lo ∨ hi < x.toInt
  · rw [if_pos hc] at ht
    dsimp only at ht
    split at ht <;> cases ht
    next h0 => exact lv_tableOut hx hb hd hc (sn_tgt h0) kk
  · rw [if_neg hc] at ht
    split at ht
    · next off ho =>
      split at ht <;> cases ht
      next h0 => exact lv_tableIn hx hb hd (fun q => hc (Or.inl q)) (fun q => hc (Or.inr q)) ho (sn_tgt h0) kk
    · cases ht
theorem sn_lsw {dflt : Int} {ps : Array (Int × Int)} {len : Nat} (hd : decode cc pc = .ok (.lookupswitch dflt ps, len)) (hp : (ps.toList.zip (ps.toList.drop 1)).all (fun q => decide (q.1.1 < q.2.1)) = true) : ma_Snd E cc own lv ini pc (i_swi (ma_lsw pc dflt ps)) := by
  refine sn_swi ?_
  intro p l e R s m args below meth c H locs cells slots Q la rest x t hx hb ht kk
  unfold ma_lsw at ht
  split at ht <;> cases ht
  next h0 => exact lv_lookup hx hb hd hp rfl (sn_tgt h0) kk
end S8
end
section
/-! ===== fields and arrays, read ===== -/
/-- what the tables say of a class of ours -/
def ma_cok (ci : Nat) : Prop := vwCl[ci]? = some (ma_rx ci, ma_tx ci, ma_nf ci) ∧ (∀ w ∈ u_ws (ma_rx ci) (ma_tx ci) (ma_nf ci), w ∈ ma_big) ∧ (∀ k, k < ma_nf ci → parseFieldDescriptor (ma_tx ci k).2.2.1 = some (ma_ty ci k)) ∧ (∀ a, a < ma_nf ci → ∀ b, b < ma_nf ci → a ≠ b → (ma_tx ci a).2.1 ≠ (ma_tx ci b).2.1) ∧ (∀ k, k < ma_nf ci → (ma_tx ci k).1 = ma_rx ci)
theorem ma_one {D : va_G} {cl : List vw_C} {q : Nat × va_E} {H : Heap} (h : va_at D cl q H) : va_P D cl [q] H := by
  intro k x hk
  have hz : k < 1 := (List.getElem?_eq_some_iff.mp hk).1
  rw [show k = 0 by omega] at hk
  cases hk
  exact h
theorem ma_in_vp {i : Int32} {n : Nat} (h : ma_in i n = true) : vp_in i n := by
  unfold ma_in at h
  rw [Bool.and_eq_true, decide_eq_true_eq] at h
  have h1 : ¬ i < 0 := by simpa using h.1
  exact fun q => q.elim h1 (fun q => by omega)
theorem ma_ok_at {w : ma_W} {a t : Nat} {i : Int32} (h : ma_ok w a t i = true) : ∃ n, (ma_sh w)[a]? = some (.inr (t, n)) ∧ ma_in i n = true := by
  unfold ma_ok at h
  split at h
  · next q hq =>
    rw [Bool.and_eq_true, decide_eq_true_eq] at h
    obtain ⟨t', n⟩ := q
    obtain ⟨rfl, h2⟩ := h
    exact ⟨n, hq, h2⟩
  · cases h
theorem ma_fs_at {E : ma_E} {w : ma_W} {o ci k : Nat} (hk : k < ma_nf ci) : ((List.range (ma_nf ci)).map (ma_fv E w o ci))[k]? = some (ma_fv E w o ci k) := by
  rw [List.getElem?_map, List.getElem?_range hk]
  rfl
section S9
variable {E : ma_E} {cc : ByteArray} {own lv pc : Nat} {ini : Bool}
theorem sn_get_w {f : ma_F} {n : Nat} {v : Nat → ma_W → ma_V} {ci : Nat} (c c') (hf : ∀ c, f c = match c.2.1 with
  | .inr (.inr (.inl (some o))) :: st => if (ma_sh c.2.2)[o]? = some (.inl ci) then some (n, c.1, v o c.2.2 :: st, c.2.2) else none
  | _ => none) (h : f c = some c') : c'.2.2.2 = c.2.2 := by
  rw [hf] at h
  split at h
  · split at h <;> cases h; rfl
  · cases h
theorem sn_gti {ci k i : Nat} (hc : ma_cok ci) (hk : k < ma_nf ci) (hr : ma_isr (ma_ty ci k) = false) (hw : Jvm.Cond.fieldLink (ma_on own) i (ma_rx ci) (ma_tx ci k).2.1 (ma_tx ci k).2.2.1 ∈ ma_big) (hd : decode cc pc = .ok (.getfield i, 3)) : ma_Snd E cc own lv ini pc (i_gti ci k (pc + 3)) := by
  refine ma_snd0 (fun c c' h => sn_get_w (v := fun o w => vI (ma_fi w o k)) c c' (fun _ => rfl) h) ?_
  intro p l e R s m args below meth c nL Q cells slots ls st w r hx hl hf _ _ kk H locs la hI hL
  unfold i_gti at hf
  split at hf
  · next o st' hs =>
    split at hf <;> cases hf
    next ho =>
    dsimp only at hs ho
    subst hs
    have hat := hI.1.2 _ _ ho
    refine va_get (ci := ci) (v := .int (ma_fi w o k)) (fs := (List.range (ma_nf ci)).map (ma_fv E w o ci)) hx.1 hx.2.1 hx.2.2.2.2.1 hc.2.1 hx.2.2.2.1 hx.2.2.2.2.2.1.1 (ma_one hat) 0 rfl hc.1 k hk (hx.2.2.2.2.1 _ hw) (fun x h => by rw [hc.2.2.2.2 k hk] at h; exact h) ?_ hd (kk H locs la hI hL)
    rw [ma_fs_at hk]
    unfold ma_fv
    rw [hr]
    rfl
  · cases hf
theorem ma_v_q (q : Option Nat) : ma_v E (vQ q) = va_rf (q.map (fun k => e_lo E + k)) := by cases q <;> rfl
theorem sn_gtr {ci k i : Nat} (hc : ma_cok ci) (hk : k < ma_nf ci) (hr : ma_isr (ma_ty ci k) = true) (hw : Jvm.Cond.fieldLink (ma_on own) i (ma_rx ci) (ma_tx ci k).2.1 (ma_tx ci k).2.2.1 ∈ ma_big) (hd : decode cc pc = .ok (.getfield i, 3)) : ma_Snd E cc own lv ini pc (i_gtr ci k (pc + 3)) := by
  refine ma_snd0 (fun c c' h => sn_get_w (v := fun o w => vQ (ma_fr w o k)) c c' (fun _ => rfl) h) ?_
  intro p l e R s m args below meth c nL Q cells slots ls st w r hx hl hf _ _ kk H locs la hI hL
  unfold i_gtr at hf
  split at hf
  · next o st' hs =>
    split at hf <;> cases hf
    next ho =>
    dsimp only at hs ho
    subst hs
    have hat := hI.1.2 _ _ ho
    refine va_get (ci := ci) (v := ma_v E (vQ (ma_fr w o k))) (fs := (List.range (ma_nf ci)).map (ma_fv E w o ci)) hx.1 hx.2.1 hx.2.2.2.2.1 hc.2.1 hx.2.2.2.1 hx.2.2.2.2.2.1.1 (ma_one hat) 0 rfl hc.1 k hk (hx.2.2.2.2.1 _ hw) (fun x h => by rw [hc.2.2.2.2 k hk] at h; exact h) ?_ hd (kk H locs la hI hL)
    rw [ma_fs_at hk, ma_v_q]
    unfold ma_fv
    rw [hr]
    rfl
  · cases hf
theorem sn_iald (hd : decode cc pc = .ok (.iaload, 1)) : ma_Snd E cc own lv ini pc (i_iald (pc + 1)) := by
  refine ma_snd0 (fun c c' h => ?_) ?_
  · unfold i_iald at h
    split at h
    · split at h <;> cases h; rfl
    · cases h
  · intro p l e R s m args below meth c nL Q cells slots ls st w r hx hl hf _ _ kk H locs la hI hL
    unfold i_iald at hf
    split at hf
    · next i a st' hs =>
      split at hf <;> cases hf
      next ho =>
      dsimp only at hs ho
      subst hs
      obtain ⟨n, h1, h2⟩ := ma_ok_at ho
      have hat := hI.1.2 _ _ h1
      exact va_iald (f := ma_ai w a) (n := n) hx.1 hx.2.1 hx.2.2.2.2.2.1.1 (ma_one hat) 0 0 rfl rfl (ma_in_vp h2) hd (kk H locs la hI hL)
    · cases hf
theorem sn_lald (hd : decode cc pc = .ok (.laload, 1)) : ma_Snd E cc own lv ini pc (i_lald (pc + 1)) := by
  refine ma_snd0 (fun c c' h => ?_) ?_
  · unfold i_lald at h
    split at h
    · split at h <;> cases h; rfl
    · cases h
  · intro p l e R s m args below meth c nL Q cells slots ls st w r hx hl hf _ _ kk H locs la hI hL
    unfold i_lald at hf
    split at hf
    · next i a st' hs =>
      split at hf <;> cases hf
      next ho =>
      dsimp only at hs ho
      subst hs
      obtain ⟨n, h1, h2⟩ := ma_ok_at ho
      have hat := hI.1.2 _ _ h1
      exact va_lald (f := ma_al w a) (n := n) hx.1 hx.2.1 hx.2.2.2.2.2.1.1 (ma_one hat) 0 2 rfl rfl (ma_in_vp h2) hd (kk H locs la hI hL)
    · cases hf
theorem sn_aald (hd : decode cc pc = .ok (.aaload, 1)) : ma_Snd E cc own lv ini pc (i_aald (pc + 1)) := by
  refine ma_snd0 (fun c c' h => ?_) ?_
  · unfold i_aald at h
    split at h
    · split at h <;> cases h; rfl
    · cases h
  · intro p l e R s m args below meth c nL Q cells slots ls st w r hx hl hf _ _ kk H locs la hI hL
    unfold i_aald at hf
    split at hf
    · next i a st' hs =>
      split at hf <;> cases hf
      next ho =>
      dsimp only at hs ho
      subst hs
      rw [Bool.or_eq_true] at ho
      have k1 := kk H locs la hI hL
      dsimp only at k1
      rw [List.map_cons, ma_v_q] at k1
      rcases ho with ho | ho
      · obtain ⟨n, h1, h2⟩ := ma_ok_at ho
        have hat := hI.1.2 _ _ h1
        exact va_aldq (C := RX1) (f := fun j => (ma_ar w a j).map (fun k => e_lo E + k)) (n := n) hx.1 hx.2.1 hx.2.2.2.2.2.1.1 (ma_one hat) 0 3 rfl rfl (ma_in_vp h2) hd k1
      · obtain ⟨n, h1, h2⟩ := ma_ok_at ho
        have hat := hI.1.2 _ _ h1
        exact va_aldq (C := RX2) (f := fun j => (ma_ar w a j).map (fun k => e_lo E + k)) (n := n) hx.1 hx.2.1 hx.2.2.2.2.2.1.1 (ma_one hat) 0 4 rfl rfl (ma_in_vp h2) hd k1
    · cases hf
theorem ma_sp_str {a : Nat} (h3 : 3 ≤ a) (h : a % 2 = 1) : ma_sp E a = .ref (e_ak E ((a - 3) / 2)) := by
  unfold ma_sp
  rw [if_neg (by omega), if_neg (by omega), if_pos h]
theorem ma_sp_byt {a : Nat} (h3 : 3 ≤ a) (h : a % 2 = 0) : ma_sp E a = .ref (e_av E ((a - 4) / 2)) := by
  unfold ma_sp
  rw [if_neg (by omega), if_neg (by omega), if_neg (by omega)]
theorem ma_lens_at {i : Nat} : ma_lens.getD i 0 = ma_len i := by
  unfold ma_lens ma_len
  simp only [List.getD_eq_getElem?_getD, List.getElem?_map]
  cases ma_tx1[i]? <;> rfl
theorem ma_byts_at {i j : Nat} (h : j < ma_len i) : (ma_byts.getD i []).getD j 0 = ma_chr i j := by
  unfold ma_byts ma_chr
  unfold ma_len at h
  simp only [List.getD_eq_getElem?_getD, List.getElem?_map] at h ⊢
  cases hq : ma_tx1[i]? with
  | none => rw [hq] at h; simp at h
  | some l =>
    rw [hq] at h
    simp only [Option.map_some, Option.getD_some, List.getElem?_map] at h ⊢
    cases hj : l[j]? with
    | none => exact absurd (List.getElem?_eq_none_iff.mp hj) (by omega)
    | some x => rfl
theorem ma_str_at {w : ma_W} {s : State} {H : Heap} {locs : List Loc} {a : Nat} (hen : ma_en E s s.heap) (hI : ma_In E w s H locs) (h3 : 3 ≤ a) (h33 : a < 33) (h : a % 2 = 0) : va_T .byte (e_av E ((a - 4) / 2)) (ma_len ((a - 4) / 2)) (fun j => .int ((ma_byts.getD ((a - 4) / 2) []).getD j 0)) (ma_A E) s H := by
  obtain ⟨-, -, -, -, -, -, h7, -⟩ := hen
  have h8 := (h7.1 ((a - 4) / 2) (by omega)).2.2.2.kept hI.2.2.1
  rw [ma_lens_at] at h8
  exact h8
theorem sn_bald (hd : decode cc pc = .ok (.baload, 1)) : ma_Snd E cc own lv ini pc (i_bald (pc + 1)) := by
  refine ma_snd0 (fun c c' h => ?_) ?_
  · unfold i_bald at h
    split at h
    · split at h <;> cases h; rfl
    · split at h <;> cases h; rfl
    · cases h
  · intro p l e R s m args below meth c nL Q cells slots ls st w r hx hl hf _ _ kk H locs la hI hL
    unfold i_bald at hf
    split at hf
    · next i a st' hs =>
      split at hf <;> cases hf
      next ho =>
      dsimp only at hs ho
      subst hs
      obtain ⟨n, h1, h2⟩ := ma_ok_at ho
      have hat := hI.1.2 _ _ h1
      exact va_bald (f := ma_ai w a) (n := n) hx.1 hx.2.1 hx.2.2.2.2.2.1.1 (ma_one hat) 0 1 rfl rfl (ma_in_vp h2) hd (kk H locs la hI hL)
    · next i a st' hs =>
      split at hf <;> cases hf
      next ho =>
      dsimp only at hs ho
      subst hs
      obtain ⟨ha, hb, hc, hd2⟩ := ho
      obtain ⟨cell, t1, t2, t3, t4, t5, t6, -⟩ := ma_str_at hx.2.2.2.2.2.1 hI ha hb hc
      have h1 := ma_in_vp hd2
      have hlt : i.toNatClampNeg < ma_len ((a - 4) / 2) := Nat.not_le.mp fun q => h1 (Or.inr q)
      have k1 := kk H locs la hI hL
      show W p l e R s m args below meth c H locs cells slots Q (F0 m pc la (.int i :: ma_sp E a :: st'.map (ma_v E)))
      rw [ma_sp_byt ha hc]
      refine W.bald (v := .int (ma_chr ((a - 4) / 2) i.toNatClampNeg)) hx.1 hx.2.1 t1 t2 t3 ?_ ?_ rfl rfl hd k1
      · exact fun q => h1 (q.elim Or.inl (fun q => Or.inr (Nat.le_trans t4 q)))
      · rw [t6 _ hlt]; dsimp only; rw [ma_byts_at hlt]
    · cases hf
theorem sn_alen (hd : decode cc pc = .ok (.arraylength, 1)) : ma_Snd E cc own lv ini pc (i_alen (pc + 1)) := by
  refine ma_snd0 (fun c c' h => ?_) ?_
  · unfold i_alen at h
    split at h
    · split at h <;> cases h; rfl
    · cases h
  · intro p l e R s m args below meth c nL Q cells slots ls st w r hx hl hf _ _ kk H locs la hI hL
    unfold i_alen at hf
    split at hf
    · next a st' hs =>
      split at hf <;> cases hf
      next ho =>
      dsimp only at hs ho
      subst hs
      obtain ⟨ha, hb, hc⟩ := ho
      obtain ⟨cell, t1, t2, t3, t4, t5, t6, -⟩ := ma_str_at hx.2.2.2.2.2.1 hI ha hb hc
      have k1 := kk H locs la hI hL
      show W p l e R s m args below meth c H locs cells slots Q (F0 m pc la (ma_sp E a :: st'.map (ma_v E)))
      rw [ma_sp_byt ha hc]
      exact W.alen (n := Int32.ofNat (ma_len ((a - 4) / 2))) hx.1 hx.2.1 t1 t2 t5 rfl rfl hd k1
    · cases hf
theorem sn_sld (hd : decode cc pc = .ok (.iaload, 1)) : ma_Snd E cc own lv ini pc (i_sld (e_xs E) (e_ll E) (pc + 1)) := by
  refine ma_snd0 (fun c c' h => ?_) ?_
  · unfold i_sld at h
    split at h
    · split at h <;> cases h; rfl
    · cases h
  · intro p l e R s m args below meth c nL Q cells slots ls st w r hx hl hf _ _ kk H locs la hI hL
    unfold i_sld at hf
    split at hf
    · next i st' hs =>
      split at hf <;> cases hf
      next ho =>
      dsimp only at hs ho
      subst hs
      have hen := hx.2.2.2.2.2.1
      exact va_sld hx.1 hx.2.1 hen.2.1 (Nat.lt_of_lt_of_le hen.2.2.1 hx.2.2.2.2.2.2.1) (Nat.not_le.mpr hen.2.2.1) hI.2 (ma_in_vp ho) hd (kk H locs la hI hL)
    · cases hf
theorem sn_sln (hd : decode cc pc = .ok (.arraylength, 1)) : ma_Snd E cc own lv ini pc (i_sln (e_ll E) (pc + 1)) := by
  refine ma_snd0 (fun c c' h => ?_) ?_
  · unfold i_sln at h
    split at h <;> cases h; rfl
  · intro p l e R s m args below meth c nL Q cells slots ls st w r hx hl hf _ _ kk H locs la hI hL
    unfold i_sln at hf
    split at hf <;> cases hf
    next st' hs =>
    dsimp only at hs
    subst hs
    have hen := hx.2.2.2.2.2.1
    exact va_slen hx.1 hx.2.1 hen.2.1 (Nat.lt_of_lt_of_le hen.2.2.1 hx.2.2.2.2.2.2.1) (Nat.not_le.mpr hen.2.2.1) hI.2 hd (kk H locs la hI hL)
/-- a text constant -/
theorem sn_ldcS {i j : Nat} (hj : j < 15) (hi : (ma_stx.getD j (0, "")).1 = i) (ho : own = 3) (hd : decode cc pc = .ok (.ldc i, 2)) : ma_Snd E cc own lv ini pc (i_spc (3 + 2 * j) (pc + 2)) := by
  refine ma_snd0 (fun c c' h => by cases h; rfl) ?_
  intro p l e R s m args below meth c nL Q cells slots ls st w r hx hl hf _ _ kk H locs la hI hL
  cases hf
  subst ho
  have h6 := hx.2.2.2.2.2.1.2.2.2.2.2.1 j hj
  rw [hi] at h6
  have k1 := kk H locs la hI hL
  have e1 : ma_v E (vS (3 + 2 * j)) = .ref (e_ak E j) := by
    show ma_sp E (3 + 2 * j) = _
    rw [ma_sp_str (by omega) (by omega), show (3 + 2 * j - 3) / 2 = j by omega]
  dsimp only at k1
  rw [List.map_cons, e1] at k1
  exact va_ldcS hx.1 hx.2.1 hx.2.2.2.1 h6 hd k1
theorem sn_gts {i k : Nat} {nm ds : String} (hw : Jvm.Cond.fieldLink (ma_on own) i "java/lang/String" nm ds ∈ ma_big) (hk : (k = 0 ∧ nm = "value" ∧ ds = "[B") ∨ (¬ k = 0 ∧ nm = "coder" ∧ ds = "B")) (hd : decode cc pc = .ok (.getfield i, 3)) : ma_Snd E cc own lv ini pc (i_gts k (pc + 3)) := by
  refine ma_snd0 (fun c c' h => ?_) ?_
  · unfold i_gts at h
    split at h
    · split at h <;> cases h; rfl
    · cases h
  · intro p l e R s m args below meth c nL Q cells slots ls st w r hx hl hf _ _ kk H locs la hI hL
    unfold i_gts at hf
    split at hf
    · next a st' hs =>
      split at hf <;> cases hf
      next ho =>
      dsimp only at hs ho
      subst hs
      obtain ⟨ha, hb, hc⟩ := ho
      obtain ⟨-, -, -, -, -, -, h7, -⟩ := hx.2.2.2.2.2.1
      have h8 := h7.1 ((a - 3) / 2) (by omega)
      have k1 := kk H locs la hI hL
      show W p l e R s m args below meth c H locs cells slots Q (F0 m pc la (ma_sp E a :: st'.map (ma_v E)))
      rw [ma_sp_str ha hc]
      rcases hk with ⟨k0, rfl, rfl⟩ | ⟨k0, rfl, rfl⟩
      · rw [if_pos k0] at k1
        have e1 : ma_v E (vS (a + 1)) = .ref (e_av E ((a - 3) / 2)) := by
          show ma_sp E (a + 1) = _
          rw [ma_sp_byt (by omega) (by omega), show a + 1 - 4 = a - 3 by omega]
        dsimp only at k1
        rw [List.map_cons, e1] at k1
        exact vk_getf hx.1 hx.2.1 h8.2.2.1 hI.2 hx.2.2.2.1 (hx.2.2.2.2.1 _ hw) (fun _ h => h) hd k1
      · rw [if_neg k0] at k1
        exact vk_getf hx.1 hx.2.1 h8.2.1 hI.2 hx.2.2.2.1 (hx.2.2.2.2.1 _ hw) (fun _ h => h) hd k1
    · cases hf
theorem sn_gsc {i : Nat} (hw : Jvm.Cond.fieldLink (ma_on own) i "java/lang/String" "COMPACT_STRINGS" "Z" ∈ ma_big) (hd : decode cc pc = .ok (.getstatic i, 3)) : ma_Snd E cc own lv ini pc (i_con 1 (pc + 3)) := by
  refine ma_snd0 sn_con_w ?_
  intro p l e R s m args below meth c nL Q cells slots ls st w r hx hl hf _ _ kk H locs la hI hL
  cases hf
  obtain ⟨-, -, -, -, -, -, -, h8, -⟩ := hx.2.2.2.2.2.1
  exact va_gets hx.1 hx.2.1 h8 hI.2 hx.2.2.2.1 (hx.2.2.2.2.1 _ hw) (fun _ h => h) hd (kk H locs la hI hL)
theorem sn_gsf {i : Nat} (hw : Jvm.Cond.fieldLink (ma_on own) i "jdk/internal/util/Preconditions" "SIOOBE_FORMATTER" "Ljava/util/function/BiFunction;" ∈ ma_big) (hd : decode cc pc = .ok (.getstatic i, 3)) : ma_Snd E cc own lv ini pc (i_spc 2 (pc + 3)) := by
  refine ma_snd0 (fun c c' h => by cases h; rfl) ?_
  intro p l e R s m args below meth c nL Q cells slots ls st w r hx hl hf _ _ kk H locs la hI hL
  cases hf
  obtain ⟨-, -, -, -, -, -, -, -, h9⟩ := hx.2.2.2.2.2.1
  exact va_gets hx.1 hx.2.1 h9 hI.2 hx.2.2.2.1 (hx.2.2.2.2.1 _ hw) (fun _ h => h) hd (kk H locs la hI hL)
end S9
end
section
/-! ===== the world, written; new cells; the JDK's own ===== -/
section S10
variable {E : ma_E}
theorem ma_In.set {w w' : ma_W} {s : State} {H H1 : Heap} {locs : List Loc} {o j : Nat} {x : ma_Sh} (hI : ma_In E w s H locs) (ho : (ma_sh w)[o]? = some x) (hsh : ma_sh w' = ma_sh w) (hat : va_at (e_dd E) vwCl (e_lo E + o, ma_ce E w' o x) H1) (hz : H1.size = H.size) (oq : ∀ q, q ≠ e_lo E + o → H1[q]? = H[q]?) (hel : ∀ (k : Nat) (y : ma_Sh), k ≠ o → ma_ce E w' k y = ma_ce E w k y) : ma_In E w' s H1 (locs ++ [⟨e_lo E + o, j⟩]) := by
  refine ⟨⟨by rw [hz, hsh]; exact hI.1.1, fun k y hk => ?_⟩, hI.2.put hz oq (Nat.le_add_right _ _)⟩
  rw [hsh] at hk
  by_cases hko : k = o
  · subst hko
    rw [ho] at hk
    cases hk
    exact hat
  · rw [hel k y hko]
    exact (hI.1.2 k y hk).kept (oq _ (by show e_lo E + k ≠ e_lo E + o; omega))
theorem ma_ce_fi {w : ma_W} {o j k : Nat} {v : Int32} {y : ma_Sh} (h : k ≠ o) : ma_ce E (pu_fi w o j v) k y = ma_ce E w k y := by
  cases y with
  | inl ci =>
    have e : ma_fv E (pu_fi w o j v) k ci = ma_fv E w k ci := by
      funext i
      simp [ma_fv, pu_fi, ma_fi, ma_fr, ma_u2, h]
    simp only [ma_ce, e]
  | inr q => rfl
theorem ma_ce_fr {w : ma_W} {o j k : Nat} {v : Option Nat} {y : ma_Sh} (h : k ≠ o) : ma_ce E (pu_fr w o j v) k y = ma_ce E w k y := by
  cases y with
  | inl ci =>
    have e : ma_fv E (pu_fr w o j v) k ci = ma_fv E w k ci := by
      funext i
      simp [ma_fv, pu_fr, ma_fi, ma_fr, ma_u2, h]
    simp only [ma_ce, e]
  | inr q => rfl
theorem ma_av_ai {w : ma_W} {g : Nat → Nat → Int32} {k t : Nat} (h : g k = ma_ai w k) : ma_av E (w.1, w.2.1, w.2.2.1, g, w.2.2.2.2) k t = ma_av E w k t := by
  unfold ma_av
  split
  · show Sum.inl (g k) = _; rw [h]
  · show Sum.inl (g k) = _; rw [h]
  · rfl
  · rfl
theorem ma_ce_ai {w : ma_W} {o j k : Nat} {v : Int32} {y : ma_Sh} (h : k ≠ o) : ma_ce E (pu_ai w o j v) k y = ma_ce E w k y := by
  cases y with
  | inl ci => rfl
  | inr q =>
    show (Sum.inl (e_cy E q.1, q.2, ma_av E (pu_ai w o j v) k q.1) : va_E) = _
    have e := ma_av_ai (E := E) (w := w) (g := ma_u2 (ma_ai w) o j v) (k := k) (t := q.1) (by funext i; simp [ma_u2, h])
    exact congrArg (fun z => (Sum.inl (e_cy E q.1, q.2, z) : va_E)) e
theorem ma_ce_ax {w : ma_W} {o k : Nat} {g : Nat → Int32} {y : ma_Sh} (h : k ≠ o) : ma_ce E (pu_ax w o g) k y = ma_ce E w k y := by
  cases y with
  | inl ci => rfl
  | inr q =>
    have e := ma_av_ai (E := E) (w := w) (g := ma_u1 (ma_ai w) o g) (k := k) (t := q.1) (by simp [ma_u1, h])
    exact congrArg (fun z => (Sum.inl (e_cy E q.1, q.2, z) : va_E)) e
theorem ma_ce_al {w : ma_W} {o j k : Nat} {v : Int64} {y : ma_Sh} (h : k ≠ o) : ma_ce E (pu_al w o j v) k y = ma_ce E w k y := by
  cases y with
  | inl ci => rfl
  | inr q =>
    have e : ma_av E (pu_al w o j v) k q.1 = ma_av E w k q.1 := by
      unfold ma_av
      split
      · rfl
      · rfl
      · have : ma_al (pu_al w o j v) k = ma_al w k := by funext i; simp [pu_al, ma_al, ma_u2, h]
        rw [this]
      · rfl
    exact congrArg (fun z => (Sum.inl (e_cy E q.1, q.2, z) : va_E)) e
theorem ma_ce_ar {w : ma_W} {o j k : Nat} {v : Option Nat} {y : ma_Sh} (h : k ≠ o) : ma_ce E (pu_ar w o j v) k y = ma_ce E w k y := by
  cases y with
  | inl ci => rfl
  | inr q =>
    have e : ma_av E (pu_ar w o j v) k q.1 = ma_av E w k q.1 := by
      unfold ma_av
      split
      · rfl
      · rfl
      · rfl
      · have : ma_ar (pu_ar w o j v) k = ma_ar w k := by funext i; simp [pu_ar, ma_ar, ma_u2, h]
        rw [this]
    exact congrArg (fun z => (Sum.inl (e_cy E q.1, q.2, z) : va_E)) e
variable {cc : ByteArray} {own lv pc : Nat} {ini : Bool}
/-- a step that writes and makes nothing -/
theorem ma_snd1 {f : ma_F}
    (hw : ∀ c c', f c = some c' → ma_sh c'.2.2.2 = ma_sh c.2.2)
    (h : ∀ {p : Program} {l : Launch} {e : Env} {R : Room} {s : State} {m : MethodId} {args : Array Value} {below : List Frame} {meth : Method} {c : Code} {nL : Nat} {Q : State → Prop} {cells slots : Nat} {ls st : List ma_V} {w : ma_W} {r : Nat × ma_C},
      ma_Cx E p R s m args meth c cc nL own lv ini → ls.length = nL → f (ls, st, w) = some r → cells ≤ R.cells → slots ≤ R.slots → ma_G E p l e R s m args below meth c nL Q r.1 r.2.1 r.2.2.1 r.2.2.2 cells slots → ma_G E p l e R s m args below meth c nL Q pc ls st w cells slots) : ma_Snd E cc own lv ini pc f := by
  refine ⟨fun c c' hc => ⟨[], by rw [hw c c' hc, List.append_nil]⟩, ?_⟩
  intro p l e R s m args below meth c nL Q cells slots ls st w r hx hl hf h1 h2 h3 h4 k
  have e1 : ma_sh r.2.2.2 = ma_sh w := hw _ _ hf
  rw [e1, Nat.sub_self, Nat.sub_self, Nat.add_zero, Nat.add_zero] at k
  exact h hx hl hf h1 h2 k
/-- a field, written: the cell behind it -/
theorem ma_put {p : Program} {l : Launch} {e : Env} {R : Room} {s : State} {m : MethodId} {args : Array Value} {below : List Frame} {meth : Method} {c : Code} {nL : Nat} {Q : State → Prop} {cells slots : Nat} {w w' : ma_W} {H : Heap} {locs : List Loc} {la : Array Slot} {rest : List Value} {ci k i o : Nat} {v : Value}
    (hx : ma_Cx E p R s m args meth c cc nL own lv ini) (hI : ma_In E w s H locs) (ho : (ma_sh w)[o]? = some (.inl ci)) (hc : ma_cok ci) (hk : k < ma_nf ci) (hw : Jvm.Cond.fieldLink (ma_on own) i (ma_rx ci) (ma_tx ci k).2.1 (ma_tx ci k).2.2.1 ∈ ma_big) (hfin : (ma_tx ci k).2.2.2 = false ∨ (ini = true ∧ ma_rx ci = ma_on own)) (hn : narrow (ma_ty ci k) v = v) (hfit : fits (ma_ty ci k) v = true) (hd : decode cc pc = .ok (.putfield i, 3))
    (hsh : ma_sh w' = ma_sh w) (hel : ∀ (k : Nat) (y : ma_Sh), k ≠ o → ma_ce E w' k y = ma_ce E w k y) (hv : ∀ j, ma_fv E w' o ci j = if j = k then v else ma_fv E w o ci j)
    (kk : ∀ (H1 : Heap) (locs1 : List Loc), ma_In E w' s H1 locs1 → W p l e R s m args below meth c H1 locs1 cells slots Q (F0 m (pc + 3) la rest)) : W p l e R s m args below meth c H locs cells slots Q (F0 m pc la (v :: .ref (e_lo E + o) :: rest)) := by
  have hts := hx.2.2.2.2.1
  have hin := hc.2.1
  have hK := hx.2.2.2.2.2.1.1
  have hap := va_apart (own := ma_on own) hts hin (ma_ty ci) hc.2.2.1 hc.2.2.2.1 hK hc.1
  obtain ⟨r, h1, cell, q1, q2, q3, q4⟩ := hI.1.2 _ _ ho
  have hr : r = (ma_rx ci, ma_tx ci, ma_nf ci) := Option.some.inj (h1.symm.trans hc.1)
  subst hr
  obtain ⟨hS, hfc, kC, hkC, hkind⟩ := hK.1 ci _ hc.1
  obtain ⟨cf, kf, fi, f, hi, hsl⟩ := hS k hk
  have hlay := hts _ (hin _ (u_in_lay hk))
  unfold u_lay at hlay
  have hst := (u_facts hfc hkC (u_lays hts hin hk) hi).1
  have hlink := hts _ hw
  have hi2 : s.fieldFound? (ma_rx ci) (ma_tx ci k).2.1 (ma_tx ci k).2.2.1 = some (cf, kf, fi, f) := by
    have := hi
    rw [hc.2.2.2.2 k hk] at this
    exact this
  have fin : ∀ (H' : Heap), H'[e_lo E + o]? = some (cell.setSlot f.slot v) → H'.size = H.size → (∀ q, q ≠ e_lo E + o → H'[q]? = H[q]?) → ma_In E w' s H' (locs ++ [⟨e_lo E + o, f.slot⟩]) := by
    intro H' e1 e2 e3
    rw [hsl] at e1 ⊢
    refine hI.set ho hsh ?_ e2 e3 hel
    refine ⟨_, hc.1, t_OB.to (V := updV (vp_V ((List.range (ma_nf ci)).map (ma_fv E w o ci))) k v) ⟨_, e1, q2, q3, t_set q4 hap hk v⟩ (fun j hj => ?_)⟩
    show updV _ k v j = vp_V ((List.range (ma_nf ci)).map (ma_fv E w' o ci)) j
    unfold updV vp_V
    simp only [List.getD_eq_getElem?_getD]
    rw [ma_fs_at hj, ma_fs_at hj, hv j]
    by_cases hjk : j = k
    · rw [if_pos hjk, if_pos hjk]; rfl
    · rw [if_neg hjk, if_neg hjk]
  rcases Bool.eq_false_or_eq_true (ma_tx ci k).2.2.2 with hb | hb
  · rw [if_pos hb] at hlay
    rcases hfin with h | ⟨h, hdecl⟩
    · rw [h] at hb; cases hb
    have hcf : m.cls = cf := by
      obtain ⟨_, _, c', _, _, _, -, -, hf', -, -, -, hown2, -⟩ := Cond.laysFinal_spec hlay
      have e1 : c' = cf := by have := hi.symm.trans hf'; simp at this; exact this.1.symm
      rw [hc.2.2.2.2 k hk, hdecl] at hown2
      rw [← e1]; exact Option.some.inj (hx.2.2.2.1.symm.trans hown2)
    have h6 := u_fits hfc hkC hkind (Or.inr hlay) hi (hc.2.2.1 k hk) hn hfit
    exact W.putFinK hx.1 hx.2.1 hx.2.2.2.1 hlink hi2 hst hcf (hx.2.2.2.2.2.2.2.2.2 h) (by rw [q2]; exact h6) q1 q3 (by rw [hsl]; exact k2_hasslot (q4 k hk)) rfl rfl hd fun H' e1 e2 e3 => kk H' _ (fin H' e1 e2 e3)
  · rw [if_neg (by rw [hb]; decide)] at hlay
    have h6 := u_store hfc hkC hkind hlay hi (hc.2.2.1 k hk) hn hfit
    exact W.putK hx.1 hx.2.1 (f := f) ⟨hx.2.2.2.1, hlink, ⟨_, _, _, hi2⟩, hst⟩ (by rw [q2]; exact h6) q1 q3 (by rw [hsl]; exact k2_hasslot (q4 k hk)) rfl rfl hd fun H' e1 e2 e3 => kk H' _ (fin H' e1 e2 e3)
theorem ma_nar_n {t : FieldType} {x : Int32} (ht : ma_isr t = false) (h : ma_nar t x = true) (hp : t = .int ∨ t = .boolean) : narrow t (.int x) = .int x ∧ fits t (.int x) = true := by
  rcases hp with rfl | rfl
  · exact ⟨rfl, rfl⟩
  · unfold ma_nar at h
    dsimp only at h
    rw [Bool.and_eq_true, decide_eq_true_eq] at h
    refine ⟨?_, h.2⟩
    have h1 := h.1
    unfold vp_nar at h1
    split at h1
    · next y hy => rw [hy, h1]
    · next hn =>
      exfalso
      have : ∃ y, narrow .boolean (.int x) = .int y := by
        unfold narrow
        exact ⟨_, rfl⟩
      obtain ⟨y, hy⟩ := this
      exact hn y hy
theorem sn_pti {ci k i : Nat} (hc : ma_cok ci) (hk : k < ma_nf ci) (hr : ma_isr (ma_ty ci k) = false) (hp : ma_ty ci k = .int ∨ ma_ty ci k = .boolean) (hw : Jvm.Cond.fieldLink (ma_on own) i (ma_rx ci) (ma_tx ci k).2.1 (ma_tx ci k).2.2.1 ∈ ma_big) (hfin : (ma_tx ci k).2.2.2 = false ∨ (ini = true ∧ ma_rx ci = ma_on own)) (hd : decode cc pc = .ok (.putfield i, 3)) : ma_Snd E cc own lv ini pc (i_pti ci k (pc + 3)) := by
  refine ma_snd1 (fun c c' h => ?_) ?_
  · unfold i_pti at h
    split at h
    · split at h <;> cases h; rfl
    · cases h
  · intro p l e R s m args below meth c nL Q cells slots ls st w r hx hl hf _ _ kk H locs la hI hL
    unfold i_pti at hf
    split at hf
    · next x o st' hs =>
      split at hf <;> cases hf
      next ho =>
      dsimp only at hs ho
      subst hs
      obtain ⟨n1, n2⟩ := ma_nar_n hr ho.2 hp
      refine ma_put (w' := pu_fi w o k x) (v := .int x) hx hI ho.1 hc hk hw hfin n1 n2 hd rfl (fun _ _ h => ma_ce_fi h) (fun j => ?_) (fun H1 locs1 h1 => kk H1 locs1 la h1 hL)
      unfold ma_fv
      by_cases hj : j = k
      · subst hj
        rw [if_pos rfl, hr]
        simp [ma_fi, pu_fi, ma_u2]
      · rw [if_neg hj]
        simp [ma_fi, ma_fr, pu_fi, ma_u2, hj]
    · cases hf
theorem ma_fit_ref {t : FieldType} {a : Nat} (h : ma_isr t = true) : narrow t (.ref a) = .ref a ∧ fits t (.ref a) = true := by
  cases t <;> first | exact ⟨rfl, rfl⟩ | cases h
theorem sn_ptr {ci k i : Nat} (hc : ma_cok ci) (hk : k < ma_nf ci) (hr : ma_isr (ma_ty ci k) = true) (hw : Jvm.Cond.fieldLink (ma_on own) i (ma_rx ci) (ma_tx ci k).2.1 (ma_tx ci k).2.2.1 ∈ ma_big) (hfin : (ma_tx ci k).2.2.2 = false ∨ (ini = true ∧ ma_rx ci = ma_on own)) (hd : decode cc pc = .ok (.putfield i, 3)) : ma_Snd E cc own lv ini pc (i_ptr ci k (pc + 3)) := by
  refine ma_snd1 (fun c c' h => ?_) ?_
  · unfold i_ptr at h
    split at h
    · split at h <;> cases h; rfl
    · cases h
  · intro p l e R s m args below meth c nL Q cells slots ls st w r hx hl hf _ _ kk H locs la hI hL
    unfold i_ptr at hf
    split at hf
    · next a o st' hs =>
      split at hf <;> cases hf
      next ho =>
      dsimp only at hs ho
      subst hs
      obtain ⟨n1, n2⟩ := ma_fit_ref (a := e_lo E + a) hr
      refine ma_put (w' := pu_fr w o k (some a)) (v := .ref (e_lo E + a)) hx hI ho hc hk hw hfin n1 n2 hd rfl (fun _ _ h => ma_ce_fr h) (fun j => ?_) (fun H1 locs1 h1 => kk H1 locs1 la h1 hL)
      unfold ma_fv
      by_cases hj : j = k
      · subst hj
        rw [if_pos rfl, hr]
        simp [ma_fr, pu_fr, ma_u2, va_rf]
      · rw [if_neg hj]
        simp [ma_fi, ma_fr, pu_fr, ma_u2, hj]
    · cases hf
theorem sn_iast (hd : decode cc pc = .ok (.iastore, 1)) : ma_Snd E cc own lv ini pc (i_iast (pc + 1)) := by
  refine ma_snd1 (fun c c' h => ?_) ?_
  · unfold i_iast at h
    split at h
    · split at h <;> cases h; rfl
    · cases h
  · intro p l e R s m args below meth c nL Q cells slots ls st w r hx hl hf _ _ kk H locs la hI hL
    unfold i_iast at hf
    split at hf
    · next x i a st' hs =>
      split at hf <;> cases hf
      next ho =>
      dsimp only at hs ho
      subst hs
      obtain ⟨n, h1, h2⟩ := ma_ok_at ho
      have hat := hI.1.2 _ _ h1
      have hK := (hx.2.2.2.2.2.1.1.2 0 _ rfl).1 n (fun j => .int (ma_ai w a j))
      have hin := ma_in_vp h2
      refine W.iast hx.1 hx.2.1 hat hK (fun q => by cases q) (by show ¬ (i < 0 ∨ (arrV _ _ _).slots.size ≤ _); rw [arrV_size]; exact hin) rfl rfl hd fun H1 e z oq => ?_
      refine kk H1 _ la (hI.set h1 rfl ?_ z oq (fun _ _ h => ma_ce_ai h)) hL
      show H1[e_lo E + a]? = some (vp_cell _ _)
      rw [e]
      show some ((arrV (e_cy E 0) n (fun j => .int (ma_ai w a j))).setSlot i.toNatClampNeg (.int x)) = some (arrV (e_cy E 0) n (fun j => .int (ma_ai (pu_ai w a i.toNatClampNeg x) a j)))
      rw [arrV_store]
      congr 2
      funext q
      by_cases hq : q = i.toNatClampNeg
      · subst hq
        simp [updV, pu_ai, ma_ai, ma_u2]
      · simp [updV, pu_ai, ma_ai, ma_u2, hq]
    · cases hf
theorem sn_bast (hd : decode cc pc = .ok (.bastore, 1)) : ma_Snd E cc own lv ini pc (i_bast (pc + 1)) := by
  refine ma_snd1 (fun c c' h => ?_) ?_
  · unfold i_bast at h
    split at h
    · split at h <;> cases h; rfl
    · cases h
  · intro p l e R s m args below meth c nL Q cells slots ls st w r hx hl hf _ _ kk H locs la hI hL
    unfold i_bast at hf
    split at hf
    · next x i a st' hs =>
      split at hf <;> cases hf
      next ho =>
      dsimp only at hs ho
      subst hs
      obtain ⟨n, h1, h2⟩ := ma_ok_at ho
      have hat := hI.1.2 _ _ h1
      have hK := (hx.2.2.2.2.2.1.1.2 1 _ rfl).1 n (fun j => .int (ma_ai w a j))
      have hin := ma_in_vp h2
      refine W.bast hx.1 hx.2.1 hat hK (fun q => by cases q) (by show ¬ (i < 0 ∨ (arrV _ _ _).slots.size ≤ _); rw [arrV_size]; exact hin) rfl rfl hd fun H1 e z oq => ?_
      refine kk H1 _ la (hI.set h1 rfl ?_ z oq (fun _ _ h => ma_ce_ai h)) hL
      show H1[e_lo E + a]? = some (vp_cell _ _)
      rw [e]
      show some ((arrV (e_cy E 1) n (fun j => .int (ma_ai w a j))).setSlot i.toNatClampNeg (narrow .byte (.int x))) = some (arrV (e_cy E 1) n (fun j => .int (ma_ai (pu_ai w a i.toNatClampNeg (vp_nar .byte x)) a j)))
      rw [arrV_store]
      congr 2
      funext q
      by_cases hq : q = i.toNatClampNeg
      · subst hq
        simp [updV, pu_ai, ma_ai, ma_u2, vp_nar, narrow]
      · simp [updV, pu_ai, ma_ai, ma_u2, hq]
    · cases hf
theorem sn_last (hd : decode cc pc = .ok (.lastore, 1)) : ma_Snd E cc own lv ini pc (i_last (pc + 1)) := by
  refine ma_snd1 (fun c c' h => ?_) ?_
  · unfold i_last at h
    split at h
    · split at h <;> cases h; rfl
    · cases h
  · intro p l e R s m args below meth c nL Q cells slots ls st w r hx hl hf _ _ kk H locs la hI hL
    unfold i_last at hf
    split at hf
    · next x i a st' hs =>
      split at hf <;> cases hf
      next ho =>
      dsimp only at hs ho
      subst hs
      obtain ⟨n, h1, h2⟩ := ma_ok_at ho
      have hat := hI.1.2 _ _ h1
      have hK := (hx.2.2.2.2.2.1.1.2 2 _ rfl).1 n (fun j => .long (ma_al w a j))
      have hin := ma_in_vp h2
      refine W.last hx.1 hx.2.1 hat hK (fun q => by cases q) (by show ¬ (i < 0 ∨ (arrV _ _ _).slots.size ≤ _); rw [arrV_size]; exact hin) rfl rfl hd fun H1 e z oq => ?_
      refine kk H1 _ la (hI.set h1 rfl ?_ z oq (fun _ _ h => ma_ce_al h)) hL
      show H1[e_lo E + a]? = some (vp_cell _ _)
      rw [e]
      show some ((arrV (e_cy E 2) n (fun j => .long (ma_al w a j))).setSlot i.toNatClampNeg (.long x)) = some (arrV (e_cy E 2) n (fun j => .long (ma_al (pu_al w a i.toNatClampNeg x) a j)))
      rw [arrV_store]
      congr 2
      funext q
      by_cases hq : q = i.toNatClampNeg
      · subst hq
        simp [updV, pu_al, ma_al, ma_u2]
      · simp [updV, pu_al, ma_al, ma_u2, hq]
    · cases hf
end S10
end
section
/-! ===== references in arrays, new cells, the JDK's own ===== -/
section S11
variable {E : ma_E} {cc : ByteArray} {own lv pc : Nat} {ini : Bool}
theorem sn_aast (hc1 : ma_cok 1) (hc2 : ma_cok 2) (hd : decode cc pc = .ok (.aastore, 1)) : ma_Snd E cc own lv ini pc (i_aast (pc + 1)) := by
  refine ma_snd1 (fun c c' h => ?_) ?_
  · unfold i_aast at h
    split at h
    · split at h <;> cases h; rfl
    · cases h
  · intro p l e R s m args below meth c nL Q cells slots ls st w r hx hl hf _ _ kk H locs la hI hL
    have core : ∀ (v a t ci n : Nat) (i : Int32) (st' : List ma_V) (C : String), ma_rx ci = C → ma_cok ci → 3 ≤ t → (ma_tys E)[t]? = some (e_cy E t, .object C) → (ma_sh w)[a]? = some (.inr (t, n)) → ma_in i n = true → (ma_sh w)[v]? = some (.inl ci) →
        (∀ (H1 : Heap) (locs1 : List Loc), ma_In E (pu_ar w a i.toNatClampNeg (some v)) s H1 locs1 → W p l e R s m args below meth c H1 locs1 cells slots Q (F0 m (pc + 1) la (st'.map (ma_v E)))) →
        W p l e R s m args below meth c H locs cells slots Q (F0 m pc la (.ref (e_lo E + v) :: .int i :: .ref (e_lo E + a) :: st'.map (ma_v E))) := by
      intro v a t ci n i st' C hC hc ht hty h1 h2 h3 k1
      subst hC
      have hK := hx.2.2.2.2.2.1.1
      have hat := hI.1.2 _ _ h1
      have hav : ma_av E w a t = .inr (.inr (.inr (.inr (fun j => (ma_ar w a j).map (fun k => e_lo E + k))))) := by
        unfold ma_av
        split <;> first | omega | rfl
      have hat' : H[e_lo E + a]? = some (arrV (e_cy E t) n (fun j => va_rf ((ma_ar w a j).map (fun k => e_lo E + k)))) := by
        have : H[e_lo E + a]? = some (vp_cell (e_cy E t) (n, ma_av E w a t)) := hat
        rw [this, hav]
        rfl
      obtain ⟨r', hr', cellV, g1, g2, g3, -⟩ := hI.1.2 _ _ h3
      have hr2 : r' = (ma_rx ci, ma_tx ci, ma_nf ci) := Option.some.inj (hr'.symm.trans hc.1)
      subst hr2
      have hcls := (hK.1 ci _ hc.1).2
      obtain ⟨kA, comp, q1, q2, q3, -⟩ := (hK.2 t _ hty).2
      have hcomp : comp = (e_dd E).1 ci := Option.some.inj (q3.symm.trans hcls.1)
      subst hcomp
      obtain ⟨kC, hkC, -⟩ := hcls.2
      have hin := ma_in_vp h2
      have hlt : i.toNatClampNeg < n := Nat.not_le.mp fun q => hin (Or.inr q)
      refine W.aast hx.1 hx.2.1 hat' (fun q h => by cases h) (fun h => by cases h) q1 q2 rfl hkC ⟨fun q => hin (Or.inl q), by rw [arrV_size]; exact hlt⟩ g1 (fun q h => by rw [g3] at h; cases h) (by rw [g2]; exact hkC) (by rw [g2]; exact va_assign hcls) rfl rfl hd fun H1 e z oq => ?_
      refine k1 H1 _ (hI.set h1 rfl ?_ z oq (fun _ _ h => ma_ce_ar h))
      have hav2 : ma_av E (pu_ar w a i.toNatClampNeg (some v)) a t = .inr (.inr (.inr (.inr (fun j => (ma_ar (pu_ar w a i.toNatClampNeg (some v)) a j).map (fun k => e_lo E + k))))) := by
        unfold ma_av
        split <;> first | omega | rfl
      show H1[e_lo E + a]? = some (vp_cell (e_cy E t) (n, ma_av E (pu_ar w a i.toNatClampNeg (some v)) a t))
      rw [e, hav2, vp_cell_q, arrV_store]
      congr 2
      funext q
      by_cases hq : q = i.toNatClampNeg
      · subst hq
        simp [updV, pu_ar, ma_ar, ma_u2, va_rf]
      · simp [updV, pu_ar, ma_ar, ma_u2, hq]
    unfold i_aast at hf
    split at hf
    · next v i a st' hs =>
      split at hf <;> cases hf
      next ho =>
      dsimp only at hs ho
      subst hs
      rw [Bool.or_eq_true, Bool.and_eq_true, Bool.and_eq_true, decide_eq_true_eq, decide_eq_true_eq] at ho
      rcases ho with ⟨ho, hv⟩ | ⟨ho, hv⟩
      · obtain ⟨n, h1, h2⟩ := ma_ok_at ho
        exact core v a 3 1 n i st' RX1 rfl hc1 (by omega) rfl h1 h2 hv (fun H1 locs1 h => kk H1 locs1 la h hL)
      · obtain ⟨n, h1, h2⟩ := ma_ok_at ho
        exact core v a 4 2 n i st' RX2 rfl hc2 (by omega) rfl h1 h2 hv (fun H1 locs1 h => kk H1 locs1 la h hL)
    · cases hf
theorem ma_ce_add {w : ma_W} {k : Nat} {x y : ma_Sh} (h : k ≠ (ma_sh w).length) : ma_ce E (ma_add w x) k y = ma_ce E w k y := by
  have e : k ≠ w.1.length := h
  cases y with
  | inl ci =>
    have e2 : ma_fv E (ma_add w x) k ci = ma_fv E w k ci := by
      funext i
      simp [ma_fv, ma_add, ma_fi, ma_fr, ma_u1, e]
    simp only [ma_ce, e2]
  | inr q =>
    have e3 : ma_av E (ma_add w x) k q.1 = ma_av E w k q.1 := by
      unfold ma_av
      have a1 : ma_ai (ma_add w x) k = ma_ai w k := by simp [ma_add, ma_ai, ma_u1, e]
      have a2 : ma_al (ma_add w x) k = ma_al w k := by simp [ma_add, ma_al, ma_u1, e]
      have a3 : ma_ar (ma_add w x) k = ma_ar w k := by simp [ma_add, ma_ar, ma_u1, e]
      rw [a1, a2, a3]
    exact congrArg (fun z => (Sum.inl (e_cy E q.1, q.2, z) : va_E)) e3
theorem ma_In.add {w : ma_W} {s : State} {H H1 : Heap} {locs : List Loc} {x : ma_Sh} (hI : ma_In E w s H locs) (hz : H1.size = H.size + 1) (o1 : ∀ q, q < H.size → H1[q]? = H[q]?) (hat : va_at (e_dd E) vwCl (e_lo E + (ma_sh w).length, ma_ce E (ma_add w x) (ma_sh w).length x) H1) : ma_In E (ma_add w x) s H1 locs := by
  have hs : ma_sh (ma_add w x) = ma_sh w ++ [x] := rfl
  refine ⟨⟨by rw [hz, hI.1.1, hs, List.length_append]; rfl, fun k y hk => ?_⟩, Nat.le_trans hI.2.1 (by omega), fun q h1 h2 => (o1 q (Nat.lt_of_lt_of_le h1 hI.2.1)).trans (hI.2.2.1 q h1 h2), hI.2.2.2⟩
  rw [hs] at hk
  by_cases hl : k < (ma_sh w).length
  · rw [List.getElem?_append_left hl] at hk
    rw [ma_ce_add (by omega)]
    exact (hI.1.2 k y hk).kept (o1 _ (by show e_lo E + k < _; rw [hI.1.1]; omega))
  · rw [List.getElem?_append_right (by omega)] at hk
    have hz2 : k - (ma_sh w).length < 1 := (List.getElem?_eq_some_iff.mp hk).1
    have hk2 : k = (ma_sh w).length := by omega
    subst hk2
    rw [Nat.sub_self] at hk
    cases hk
    exact hat
theorem ma_add_len {w : ma_W} {x : ma_Sh} : (ma_sh (ma_add w x)).length - (ma_sh w).length = 1 := by
  show (ma_sh w ++ [x]).length - _ = 1
  rw [List.length_append]
  show (ma_sh w).length + 1 - _ = 1
  omega
theorem ma_add_szs {w : ma_W} {x : ma_Sh} : ma_szs (ma_sh (ma_add w x)) - ma_szs (ma_sh w) = ma_sz x := by
  show ma_szs (ma_sh w ++ [x]) - _ = _
  unfold ma_szs
  rw [List.map_append, List.sum_append]
  simp
/-- the types of our fields -/
def ma_ck2 (ci : Nat) : Prop := ∀ k, k < ma_nf ci → ma_isr (ma_ty ci k) = true ∨ ma_ty ci k = .int ∨ ma_ty ci k = .boolean
theorem sn_new {ci i : Nat} (hc : ma_cok ci) (hc2 : ma_ck2 ci) (hw1 : Jvm.Cond.classLink (ma_on own) i (ma_rx ci) ∈ ma_big) (hw2 : Jvm.Cond.instantiable (ma_rx ci) (ma_nf ci) ∈ ma_big) (hw3 : Jvm.Cond.initialized (ma_rx ci) ∈ ma_big) (hd : decode cc pc = .ok (.new i, 3)) : ma_Snd E cc own lv ini pc (i_new ci (pc + 3)) := by
  refine ⟨fun c c' h => by cases h; exact ⟨[.inl ci], rfl⟩, ?_⟩
  intro p l e R s m args below meth c nL Q cells slots ls st w r hx hl hf _ _ h3 h4 kk H locs la hI hL
  cases hf
  dsimp only at h3 h4 kk
  rw [ma_add_len] at h3 kk
  rw [ma_add_szs] at h4 kk
  have hts := hx.2.2.2.2.1
  have hK := hx.2.2.2.2.2.1.1
  have hKn := hK.1 ci _ hc.1
  refine W.newcK hx.1 hx.2.1 hx.2.2.2.1 (hts _ hw1) (hts _ hw2) (hts _ hw3) rfl hd h3 h4 hKn.2.1 rfl fun H1 kC hkC e1 z1 o1 => ?_
  rw [hI.1.1]
  refine kk H1 _ la (hI.add z1 o1 ?_) hL
  rw [hI.1.1] at e1
  refine ⟨_, hc.1, (u_born (ma_ty ci) hts hc.2.1 hKn hkC e1 hc.2.2.1).to (fun j hj => ?_)⟩
  show defaultValue (ma_ty ci j) = vp_V ((List.range (ma_nf ci)).map (ma_fv E (ma_add w (.inl ci)) (ma_sh w).length ci)) j
  unfold vp_V
  rw [List.getD_eq_getElem?_getD, ma_fs_at hj]
  show _ = ma_fv E (ma_add w (.inl ci)) (ma_sh w).length ci j
  have f1 : ma_fi (ma_add w (.inl ci)) (ma_sh w).length j = 0 := by simp [ma_add, ma_fi, ma_u1, ma_sh]
  have f2 : ma_fr (ma_add w (.inl ci)) (ma_sh w).length j = none := by simp [ma_add, ma_fr, ma_u1, ma_sh]
  unfold ma_fv
  rw [f1, f2]
  rcases hc2 j hj with h | h | h
  · rw [h]
    revert h
    cases ma_ty ci j <;> intro h <;> first | rfl | cases h
  · rw [h]; rfl
  · rw [h]; rfl
theorem sn_nwa_core {t i : Nat} {x : Int32} {ty : FieldType} {n : Nat} {p : Program} {l : Launch} {e : Env} {R : Room} {s : State} {m : MethodId} {args : Array Value} {below : List Frame} {meth : Method} {c : Code} {nL : Nat} {Q : State → Prop} {cells slots : Nat} {w : ma_W} {H : Heap} {locs : List Loc}
    {g : JFrame} (hI : ma_In E w s H locs)
    (k : ∀ H1, ma_In E (ma_add w (.inr (t, n))) s H1 locs → W p l e R s m args below meth c H1 locs (cells + 1) (slots + n) Q g) (H1 : Heap) (hz : H1.size = H.size + 1) (o1 : ∀ q, q < H.size → H1[q]? = H[q]?) (hcell : H1[H.size]? = some (vp_cell (e_cy E t) (n, ma_av E (ma_add w (.inr (t, n))) (ma_sh w).length t))) : W p l e R s m args below meth c H1 locs (cells + 1) (slots + n) Q g := by
  refine k H1 (hI.add hz o1 ?_)
  rw [hI.1.1] at hcell
  exact hcell
theorem ma_new_av {w : ma_W} {t n : Nat} : ma_av E (ma_add w (.inr (t, n))) (ma_sh w).length t = match t with
  | 0 => .inl (fun _ => 0)
  | 1 => .inl (fun _ => 0)
  | 2 => .inr (.inl (fun _ => 0))
  | _ => .inr (.inr (.inr (.inr (fun _ => none)))) := by
  have a1 : ma_ai (ma_add w (.inr (t, n))) (ma_sh w).length = fun _ => 0 := by simp [ma_add, ma_ai, ma_u1, ma_sh]
  have a2 : ma_al (ma_add w (.inr (t, n))) (ma_sh w).length = fun _ => 0 := by simp [ma_add, ma_al, ma_u1, ma_sh]
  have a3 : ma_ar (ma_add w (.inr (t, n))) (ma_sh w).length = fun _ => none := by simp [ma_add, ma_ar, ma_u1, ma_sh]
  unfold ma_av
  rw [a1, a2, a3]
  rfl
theorem sn_nwa_e {t n : Nat} (c c') (h : i_nwa t n c = some c') : ∃ x, ma_sh c'.2.2.2 = ma_sh c.2.2 ++ x := by
  unfold i_nwa at h
  split at h
  · split at h <;> cases h
    exact ⟨[_], rfl⟩
  · cases h
theorem sn_nwa {t : Nat} {at_ : ArrayType} {ty : FieldType} (ht : newarray.typeOf at_ = ty) (hb : componentBytes ty ≤ 8) (hty : (ma_tys E)[t]? = some (e_cy E t, ty)) (hno : ∀ C, ty ≠ .object C)
    (hav : ∀ (w : ma_W) (n : Nat), vp_cell (e_cy E t) (n, ma_av E (ma_add w (.inr (t, n))) (ma_sh w).length t) = arrV (e_cy E t) n (fun _ => defaultValue ty))
    (hw : Jvm.Cond.arrayClass ty ∈ ma_big) (hd : decode cc pc = .ok (.newarray at_, 2)) : ma_Snd E cc own lv ini pc (i_nwa t (pc + 2)) := by
  subst ht
  refine ⟨sn_nwa_e, ?_⟩
  intro p l e R s m args below meth c nL Q cells slots ls st w r hx hl hf _ _ h3 h4 kk H locs la hI hL
  unfold i_nwa at hf
  split at hf
  · next x st' hs =>
    split at hf <;> cases hf
    next ho =>
    dsimp only at hs ho h3 h4 kk
    subst hs
    rw [ma_add_len] at h3 kk
    rw [ma_add_szs] at h4 kk
    have hts := hx.2.2.2.2.1
    have hK := hx.2.2.2.2.2.1.1
    have hRA := (hK.2 t _ hty).2
    have hnm : s.vm.findClass ("[" ++ (newarray.typeOf at_).toString) = some (e_cy E t) := by
      revert hRA
      unfold va_RA
      dsimp only
      split
      · next C hC => exact absurd hC (hno C)
      · exact id
    refine va_newaK (N := x.toNatClampNeg) hx.1 hx.2.1 (hts _ hw) rfl hd rfl ho.1 rfl (by
      have := Nat.mul_le_mul ho.2 hb
      omega) h3 h4 rfl fun H1 cA e1 z1 o1 hAr hNm => ?_
    have hcA : cA = e_cy E t := Option.some.inj (hNm.symm.trans hnm)
    subst hcA
    have k2 := sn_nwa_core (t := t) (n := x.toNatClampNeg) (i := 0) (x := x) (ty := .int) (nL := nL) (g := F0 m (pc + 2) la ((vR (ma_sh w).length :: st').map (ma_v E))) (R := R) (p := p) (l := l) (e := e) (m := m) (args := args) (below := below) (meth := meth) (c := c) (Q := Q) (cells := cells) (slots := slots) hI (fun H1 h => kk H1 _ la h hL) H1 z1 o1 (by rw [hav]; exact e1)
    rw [List.map_cons] at k2
    rw [hI.1.1]
    exact k2
  · cases hf
theorem sn_anw {t ci i : Nat} {C : String} (hC : ma_rx ci = C) (ht : 3 ≤ t) (hty : (ma_tys E)[t]? = some (e_cy E t, .object C)) (hao : ∀ s, ma_en E s s.heap → va_AO C s) (hw : Jvm.Cond.classLink (ma_on own) i C ∈ ma_big) (hd : decode cc pc = .ok (.anewarray i, 3)) : ma_Snd E cc own lv ini pc (i_nwa t (pc + 3)) := by
  refine ⟨sn_nwa_e, ?_⟩
  intro p l e R s m args below meth c nL Q cells slots ls st w r hx hl hf _ _ h3 h4 kk H locs la hI hL
  unfold i_nwa at hf
  split at hf
  · next x st' hs =>
    split at hf <;> cases hf
    next ho =>
    dsimp only at hs ho h3 h4 kk
    subst hs
    rw [ma_add_len] at h3 kk
    rw [ma_add_szs] at h4 kk
    have hts := hx.2.2.2.2.1
    have hK := hx.2.2.2.2.2.1.1
    obtain ⟨kA', comp', q1, q2, q3, q4⟩ := (hK.2 t _ hty).2
    refine W.anew hx.1 hx.2.1 hx.2.2.2.1 (hts _ hw) (va_AO.use (hao s hx.2.2.2.2.2.1)) rfl hd rfl ho.1 (by omega) h3 h4 fun cA kA comp f1 f2 f3 f4 => ?_
    have hcA : cA = e_cy E t := Option.some.inj (f1.symm.trans q4)
    subst hcA
    have k2 := sn_nwa_core (t := t) (n := x.toNatClampNeg) (i := 0) (x := x) (ty := .int) (nL := nL) (g := F0 m (pc + 3) la ((vR (ma_sh w).length :: st').map (ma_v E))) (R := R) (p := p) (l := l) (e := e) (m := m) (args := args) (below := below) (meth := meth) (c := c) (Q := Q) (cells := cells) (slots := slots) hI (fun H1 h => kk H1 _ la h hL) (H.push ({ cls := e_cy E t, slots := Array.replicate x.toNatClampNeg .null, vm := .none } : Cell)) (by rw [Array.size_push]) (fun q hq => by rw [Array.getElem?_push, if_neg (Nat.ne_of_lt hq)]) (by
      rw [Array.getElem?_push_size, arrV_new, ma_new_av]
      match t, ht with
      | t' + 3, _ => rfl)
    rw [List.map_cons] at k2
    rw [hI.1.1]
    exact k2
  · cases hf
theorem ma_catsum (st : List ma_V) (E : ma_E) : ((st.map (ma_v E)).map fun v => v.category).sum = (st.map ma_cat).sum := by
  induction st with
  | nil => rfl
  | cons v st ih =>
    simp only [List.map_cons, List.sum_cons, ih]
    congr 1
    by_cases hv : ∃ x, v = vL x
    · obtain ⟨x, rfl⟩ := hv; rfl
    · rw [ma_v_cat (fun x hx => hv ⟨x, hx⟩)]
      match v, hv with
      | .inl _, _ => rfl
      | .inr (.inl x), hv => exact absurd ⟨x, rfl⟩ hv
      | .inr (.inr _), _ => rfl
theorem sn_mmx {i : Nat} (h1 : Jvm.Cond.methodLink (ma_on own) i Lib.Math.max.name ∈ ma_big) (h2 : Jvm.Cond.static Lib.Math.max.name ∈ ma_big) (h3 : Jvm.Cond.initialized "java/lang/Math" ∈ ma_big) (h4 : Jvm.Cond.code Lib.Math.max.name Lib.Math.max.code 2 (some .int) ∈ ma_big) (hlv : 1 ≤ lv) (hd : decode cc pc = .ok (.invokestatic i, 3)) : ma_Snd E cc own lv ini pc (i_lim 2 (i_bin (fun x y => if x < y then y else x) (pc + 3))) := by
  refine ma_snd0 (fun c c' h => ?_) ?_
  · unfold i_lim i_bin at h
    split at h
    · split at h <;> cases h; rfl
    · cases h
  · intro p l e R s m args below meth c nL Q cells slots ls st w r hx hl hf hc hs2 kk H locs la hI hL
    unfold i_lim i_bin at hf
    split at hf
    · next hlim =>
      split at hf <;> cases hf
      next y x st' hs =>
      dsimp only at hs hlim
      subst hs
      have hts := hx.2.2.2.2.1
      have hfr := hx.2.2.2.2.2.2.2.1
      have hlo := hx.2.2.2.2.2.2.2.2.1
      exact va_mmax hx.1 hx.2.1 (by rw [hx.2.2.1, hL.1]) hx.2.2.2.1 (hts _ h1) (hts _ h2) (hts _ h3) (hts _ h4) (by omega) (by rw [ma_catsum]; have : ((List.drop 2 (Sum.inl y :: Sum.inl x :: st')).map ma_cat).sum = (st'.map ma_cat).sum := rfl; omega) hc hs2 hd (kk H locs la hI hL)
    · cases hf
theorem sn_mmn {i : Nat} (h1 : Jvm.Cond.methodLink (ma_on own) i Lib.Math.min.name ∈ ma_big) (h2 : Jvm.Cond.static Lib.Math.min.name ∈ ma_big) (h3 : Jvm.Cond.initialized "java/lang/Math" ∈ ma_big) (h4 : Jvm.Cond.code Lib.Math.min.name Lib.Math.min.code 2 (some .int) ∈ ma_big) (hlv : 1 ≤ lv) (hd : decode cc pc = .ok (.invokestatic i, 3)) : ma_Snd E cc own lv ini pc (i_lim 2 (i_bin (fun x y => if y < x then y else x) (pc + 3))) := by
  refine ma_snd0 (fun c c' h => ?_) ?_
  · unfold i_lim i_bin at h
    split at h
    · split at h <;> cases h; rfl
    · cases h
  · intro p l e R s m args below meth c nL Q cells slots ls st w r hx hl hf hc hs2 kk H locs la hI hL
    unfold i_lim i_bin at hf
    split at hf
    · next hlim =>
      split at hf <;> cases hf
      next y x st' hs =>
      dsimp only at hs hlim
      subst hs
      have hts := hx.2.2.2.2.1
      have hfr := hx.2.2.2.2.2.2.2.1
      have hlo := hx.2.2.2.2.2.2.2.2.1
      exact va_mmin hx.1 hx.2.1 (by rw [hx.2.2.1, hL.1]) hx.2.2.2.1 (hts _ h1) (hts _ h2) (hts _ h3) (hts _ h4) (by omega) (by rw [ma_catsum]; have : ((List.drop 2 (Sum.inl y :: Sum.inl x :: st')).map ma_cat).sum = (st'.map ma_cat).sum := rfl; omega) hc hs2 hd (kk H locs la hI hL)
    · cases hf
theorem sn_oin {i : Nat} (h1 : Jvm.Cond.methodLink (ma_on own) i Lib.objectInit ∈ ma_big) (h2 : Jvm.Cond.instanceMethod Lib.objectInit ∈ ma_big) (h3 : Jvm.Cond.code Lib.objectInit ⟨#[0xb1]⟩ 1 none ∈ ma_big) (hlv : 1 ≤ lv) (hd : decode cc pc = .ok (.invokespecial i, 3)) : ma_Snd E cc own lv ini pc (i_lim 1 (i_oin (pc + 3))) := by
  refine ma_snd0 (fun c c' h => ?_) ?_
  · unfold i_lim i_oin at h
    split at h
    · split at h <;> cases h; rfl
    · cases h
  · intro p l e R s m args below meth c nL Q cells slots ls st w r hx hl hf hc hs2 kk H locs la hI hL
    unfold i_lim i_oin at hf
    split at hf
    · next hlim =>
      split at hf <;> cases hf
      next a st' hs =>
      dsimp only at hs hlim
      subst hs
      have hts := hx.2.2.2.2.1
      have hfr := hx.2.2.2.2.2.2.2.1
      have hlo := hx.2.2.2.2.2.2.2.2.1
      have h8 : ((st'.map (ma_v E)).map fun v => v.category).sum ≤ 8 := by rw [ma_catsum]; exact hlim
      exact W.objInit hx.1 hx.2.1 hx.2.2.2.1 (hts _ h1) (hts _ h2) (hts _ h3) rfl (by rw [hx.2.2.1]; exact hL.1) (rest := st'.map (ma_v E)) rfl hd (by omega) (by show 2 * 0 + ((st'.map (ma_v E)).map fun v => v.category).sum + 12 ≤ R.locals; omega) (kk H locs la hI hL)
    · cases hf
end S11
end
section
/-! ===== System.arraycopy between rows of ints ===== -/
section S12
variable {E : ma_E} {cc : ByteArray} {own lv pc : Nat} {ini : Bool}
theorem ma_nn {z : Int32} (hz : ¬ z < 0) : z.toInt = (z.toNatClampNeg : Int) := by
  have hz0 : (0 : Int) ≤ z.toInt := by
    have := Int32.not_lt.mp hz
    simpa using Int32.le_iff_toInt_le.mp this
  show z.toInt = ((z.toInt.toNat : Nat) : Int)
  omega
set_option maxHeartbeats 1000000 in
theorem sn_cpy {i : Nat} (w1 : Jvm.Cond.methodLink (ma_on own) i arraycopyName ∈ ma_big) (w2 : Jvm.Cond.native arraycopyName ∈ ma_big) (w3 : Jvm.Cond.static arraycopyName ∈ ma_big) (w4 : Jvm.Cond.initialized "java/lang/System" ∈ ma_big) (hlv : 1 ≤ lv) (hd : decode cc pc = .ok (.invokestatic i, 3)) : ma_Snd E cc own lv ini pc (i_lim 5 (i_cpy (pc + 3))) := by
  refine ma_snd1 (fun c c' h => ?_) ?_
  · unfold i_lim i_cpy at h
    split at h
    · split at h
      · split at h
        · split at h <;> cases h; rfl
        · cases h
      · cases h
    · cases h
  · intro p l e R s m args below meth c nL Q cells slots ls st w r hx hl hf hc hs2 kk H locs la hI hL
    unfold i_lim i_cpy at hf
    split at hf
    · next hlim =>
      split at hf
      · next z dp a sp a0 st' hs =>
        split at hf
        · next q q0 hq hq0 =>
          split at hf <;> cases hf
          next ho =>
          obtain ⟨n0, n1⟩ := q0
          obtain ⟨m0, m1⟩ := q
          dsimp only at hs hlim hq hq0 ho
          subst hs
          obtain ⟨rfl, rfl, h1, h2, h3, h4, h5⟩ := ho
          have hts := hx.2.2.2.2.1
          have hK := hx.2.2.2.2.2.1.1
          have hfr := hx.2.2.2.2.2.2.2.1
          have hlo := hx.2.2.2.2.2.2.2.2.1
          have h8 : ((st'.map (ma_v E)).map fun v => v.category).sum ≤ 8 := by rw [ma_catsum]; exact hlim
          intro T hT X
          have c0 : H[e_lo E + a0]? = some (arrV (e_cy E 0) n1 (fun j => .int (ma_ai w a0 j))) := hI.1.2 _ _ hq0
          have c1 : H[e_lo E + a]? = some (arrV (e_cy E 0) m1 (fun j => .int (ma_ai w a j))) := hI.1.2 _ _ hq
          obtain ⟨-, k0, hk0, cm0, hkk0⟩ := (hK.2 0 _ rfl).1 n1 (fun j => .int (ma_ai w a0 j))
          have e5 : nativeFrameWords "java/lang/System" "arraycopy" 5 = 7 := by decide +kernel
          obtain ⟨vm', X', step⟩ := X.arraycopy hx.1 hx.2.2.2.1 (hts _ w1) (hts _ w2) (hts _ w3) (hts _ w4) (src := e_lo E + a0) (dst := e_lo E + a) (cs := arrV (e_cy E 0) n1 (fun j => .int (ma_ai w a0 j))) (cd := arrV (e_cy E 0) m1 (fun j => .int (ma_ai w a j))) (srcPos := sp) (destPos := dp) (n := z) (by rw [hT]; exact c0) (by rw [hT]; exact c1)
            (fun _ h => by cases h) (fun _ h => by cases h) (fun h => by cases h) (fun h => by cases h) hk0 hk0 hkk0 hkk0 (by simp [refKind]) h1 h2 h3
            (by rw [ma_nn h1, ma_nn h3, arrV_size]; omega)
            (by rw [ma_nn h2, ma_nn h3, arrV_size]; omega)
            (fun vm₁ _ i hi => by
              have e : (arrV (e_cy E 0) n1 (fun j => Value.int (ma_ai w a0 j))).slots.getD (sp.toNatClampNeg + i) .null = .int (ma_ai w a0 (sp.toNatClampNeg + i)) := by
                rw [Array.getD_eq_getD_getElem?, arrV_read _ _ (by omega)]
                rfl
              rw [e]
              exact ⟨rfl, trivial⟩)
            (g := F0 m pc la (.int z :: .int dp :: .ref (e_lo E + a) :: .int sp :: .ref (e_lo E + a0) :: st'.map (ma_v E))) rfl (by rw [hx.2.2.1]; exact hL.1) (rest := st'.map (ma_v E)) rfl (by rw [hx.2.1]; exact hd) (by omega) (by show 2 * 0 + _ + _ ≤ _; rw [e5]; omega)
          have e1 : copied (arrV (e_cy E 0) n1 (fun j => .int (ma_ai w a0 j))) (arrV (e_cy E 0) m1 (fun j => .int (ma_ai w a j))) sp dp z = arrV (e_cy E 0) m1 (fun j => .int (va_cpy (ma_ai w a0) (ma_ai w a) sp.toNatClampNeg dp.toNatClampNeg z.toNatClampNeg j)) := va_copied (fun y => .int y) (e_cy E 0) (e_cy E 0) (ma_ai w a0) (ma_ai w a) h4
          rw [e1] at X' step
          have hl2 : e_lo E + a < H.size := (Array.getElem?_eq_some_iff.mp c1).1
          generalize hcN : arrV (e_cy E 0) m1 (fun j => .int (va_cpy (ma_ai w a0) (ma_ai w a) sp.toNatClampNeg dp.toNatClampNeg z.toNatClampNeg j)) = cN at X' step
          have hheap : ((T.setVm vm').setCell (e_lo E + a) cN).heap = H.setIfInBounds (e_lo E + a) cN := by rw [← hT]; rfl
          have oq : ∀ q : Nat, q ≠ e_lo E + a → (H.setIfInBounds (e_lo E + a) cN)[q]? = H[q]? := fun q hq => by simp [Array.getElem?_setIfInBounds, Ne.symm hq]
          have hin : ∀ L : List Loc, (∀ x ∈ L, ma_A E x.base) → ma_In E (pu_ax w a (va_cpy (ma_ai w a0) (ma_ai w a) sp.toNatClampNeg dp.toNatClampNeg z.toNatClampNeg)) s (H.setIfInBounds (e_lo E + a) cN) (locs ++ L) := by
            intro L hLL
            have h9 := hI.set (w' := pu_ax w a (va_cpy (ma_ai w a0) (ma_ai w a) sp.toNatClampNeg dp.toNatClampNeg z.toNatClampNeg)) (H1 := H.setIfInBounds (e_lo E + a) cN) (j := 0) hq rfl (by
              show (H.setIfInBounds (e_lo E + a) cN)[e_lo E + a]? = some (arrV (e_cy E 0) m1 (fun j => .int (ma_ai (pu_ax w a (va_cpy (ma_ai w a0) (ma_ai w a) sp.toNatClampNeg dp.toNatClampNeg z.toNatClampNeg)) a j)))
              have e10 : ma_ai (pu_ax w a (va_cpy (ma_ai w a0) (ma_ai w a) sp.toNatClampNeg dp.toNatClampNeg z.toNatClampNeg)) a = va_cpy (ma_ai w a0) (ma_ai w a) sp.toNatClampNeg dp.toNatClampNeg z.toNatClampNeg := by simp [pu_ax, ma_ai, ma_u1]
              rw [e10, hcN]
              simp [Array.getElem?_setIfInBounds, hl2]) (by simp) oq (fun _ _ h => ma_ce_ax h)
            exact ⟨h9.1, h9.2.1, h9.2.2.1, fun x hx => (List.mem_append.mp hx).elim (hI.2.2.2 x) (hLL x)⟩
          obtain ⟨t, a1, b1⟩ := kk _ _ la (hin _ (fun x hx => by
            obtain ⟨y, -, hy⟩ := List.mem_map.mp hx
            rw [← hy]
            exact Nat.le_add_right _ _)) hL _ hheap X'
          exact ⟨t, step t a1, b1⟩
        · cases hf
      · cases hf
    · cases hf
end S12
end
section
/-! ===== the tables' words that the links need ===== -/
def ma_wd (i : Nat) (c : Jvm.Cond) : Bool := decide (tables_1[i]? = some c) && goodWord c
theorem ma_tb_in {c : Jvm.Cond} (h : c ∈ tables_1) (hg : goodWord c = true) : c ∈ ma_big := List.mem_filter.mpr ⟨List.mem_append_right _ h, hg⟩
theorem ma_wd_in {i : Nat} {c : Jvm.Cond} (h : ma_wd i c = true) : c ∈ ma_big := by
  unfold ma_wd at h
  rw [Bool.and_eq_true, decide_eq_true_eq] at h
  exact ma_tb_in (List.mem_of_getElem? h.1) h.2
theorem ma_lk_mem {α : Type} : ∀ {l : List (Nat × α)} {i : Nat} {v : α}, ma_lk l i = some v → (i, v) ∈ l
  | [], _, _, h => by cases h
  | q :: l, i, v, h => by
    unfold ma_lk at h
    by_cases hi : i = q.1
    · rw [if_pos hi] at h
      cases h
      rw [hi]
      exact List.mem_cons_self
    · rw [if_neg hi] at h
      exact List.mem_cons_of_mem _ (ma_lk_mem h)
def ma_fok (own : Nat) (q : Nat × Nat × Nat × Nat) : Bool := ma_wd q.2.2.2 (.fieldLink (ma_on own) q.1 (ma_rx q.2.1) (ma_tx q.2.1 q.2.2.1).2.1 (ma_tx q.2.1 q.2.2.1).2.2.1) && decide (q.2.1 < 7) && decide (q.2.2.1 < ma_nf q.2.1)
theorem ma_fls_ok : ∀ own, ∀ q ∈ ma_fls own, ma_fok own q = true
  | 0 => by decide +kernel
  | 1 => by decide +kernel
  | 2 => by decide +kernel
  | 3 => by decide +kernel
  | 4 => by decide +kernel
  | 5 => by decide +kernel
  | 6 => by decide +kernel
  | 7 => fun _ h => absurd h List.not_mem_nil
  | 8 => fun _ h => absurd h List.not_mem_nil
  | 9 => fun _ h => absurd h List.not_mem_nil
  | 10 => fun _ h => absurd h List.not_mem_nil
  | 11 => fun _ h => absurd h List.not_mem_nil
  | 12 => fun _ h => absurd h List.not_mem_nil
  | 13 => fun _ h => absurd h List.not_mem_nil
  | 14 => fun _ h => absurd h List.not_mem_nil
  | 15 => fun _ h => absurd h List.not_mem_nil
  | 16 => fun _ h => absurd h List.not_mem_nil
  | 17 => fun _ h => absurd h List.not_mem_nil
  | 18 => fun _ h => absurd h List.not_mem_nil
  | 19 => fun _ h => absurd h List.not_mem_nil
  | _ + 20 => fun _ h => absurd h List.not_mem_nil
def ma_clk (own : Nat) (q : Nat × Nat × Nat × Nat × Nat) : Bool := ma_wd q.2.2.1 (.classLink (ma_on own) q.1 (ma_rx q.2.1)) && ma_wd q.2.2.2.1 (.instantiable (ma_rx q.2.1) (ma_nf q.2.1)) && ma_wd q.2.2.2.2 (.initialized (ma_rx q.2.1)) && decide (q.2.1 < 7)
theorem ma_cls_ok : ∀ own, ∀ q ∈ ma_cls own, ma_clk own q = true
  | 0 => fun _ h => absurd h List.not_mem_nil
  | 1 => fun _ h => absurd h List.not_mem_nil
  | 2 => fun _ h => absurd h List.not_mem_nil
  | 3 => fun _ h => absurd h List.not_mem_nil
  | 4 => fun _ h => absurd h List.not_mem_nil
  | 5 => by decide +kernel
  | 6 => fun _ h => absurd h List.not_mem_nil
  | 7 => by decide +kernel
  | 8 => fun _ h => absurd h List.not_mem_nil
  | 9 => fun _ h => absurd h List.not_mem_nil
  | 10 => fun _ h => absurd h List.not_mem_nil
  | 11 => fun _ h => absurd h List.not_mem_nil
  | 12 => fun _ h => absurd h List.not_mem_nil
  | 13 => fun _ h => absurd h List.not_mem_nil
  | 14 => fun _ h => absurd h List.not_mem_nil
  | 15 => fun _ h => absurd h List.not_mem_nil
  | 16 => fun _ h => absurd h List.not_mem_nil
  | 17 => fun _ h => absurd h List.not_mem_nil
  | 18 => fun _ h => absurd h List.not_mem_nil
  | 19 => fun _ h => absurd h List.not_mem_nil
  | _ + 20 => fun _ h => absurd h List.not_mem_nil
theorem ma_ccs_ok : ∀ own, ∀ q ∈ ma_ccs own, ma_wd q.2.2 (.constant (ma_on own) q.1 q.2.1) = true
  | 0 => fun _ h => absurd h List.not_mem_nil
  | 1 => fun _ h => absurd h List.not_mem_nil
  | 2 => fun _ h => absurd h List.not_mem_nil
  | 3 => fun _ h => absurd h List.not_mem_nil
  | 4 => by decide +kernel
  | 5 => fun _ h => absurd h List.not_mem_nil
  | 6 => by decide +kernel
  | 7 => fun _ h => absurd h List.not_mem_nil
  | 8 => fun _ h => absurd h List.not_mem_nil
  | 9 => fun _ h => absurd h List.not_mem_nil
  | 10 => fun _ h => absurd h List.not_mem_nil
  | 11 => fun _ h => absurd h List.not_mem_nil
  | 12 => fun _ h => absurd h List.not_mem_nil
  | 13 => fun _ h => absurd h List.not_mem_nil
  | 14 => fun _ h => absurd h List.not_mem_nil
  | 15 => fun _ h => absurd h List.not_mem_nil
  | 16 => by decide +kernel
  | 17 => fun _ h => absurd h List.not_mem_nil
  | 18 => fun _ h => absurd h List.not_mem_nil
  | 19 => fun _ h => absurd h List.not_mem_nil
  | _ + 20 => fun _ h => absurd h List.not_mem_nil
theorem ma_lcs_ok : ∀ own, ∀ q ∈ ma_lcs own, ma_wd q.2.2 (.constantLong (ma_on own) q.1 q.2.1) = true
  | 0 => fun _ h => absurd h List.not_mem_nil
  | 1 => fun _ h => absurd h List.not_mem_nil
  | 2 => fun _ h => absurd h List.not_mem_nil
  | 3 => fun _ h => absurd h List.not_mem_nil
  | 4 => fun _ h => absurd h List.not_mem_nil
  | 5 => by decide +kernel
  | 6 => by decide +kernel
  | 7 => by decide +kernel
  | 8 => fun _ h => absurd h List.not_mem_nil
  | 9 => fun _ h => absurd h List.not_mem_nil
  | 10 => fun _ h => absurd h List.not_mem_nil
  | 11 => fun _ h => absurd h List.not_mem_nil
  | 12 => fun _ h => absurd h List.not_mem_nil
  | 13 => fun _ h => absurd h List.not_mem_nil
  | 14 => fun _ h => absurd h List.not_mem_nil
  | 15 => fun _ h => absurd h List.not_mem_nil
  | 16 => fun _ h => absurd h List.not_mem_nil
  | 17 => fun _ h => absurd h List.not_mem_nil
  | 18 => fun _ h => absurd h List.not_mem_nil
  | 19 => fun _ h => absurd h List.not_mem_nil
  | _ + 20 => fun _ h => absurd h List.not_mem_nil
theorem ma_sts_ok : ∀ own, ∀ q ∈ ma_sts own, own = 3 ∧ q.2.1 < 15 ∧ (ma_stx.getD q.2.1 (0, "")).1 = q.1
  | 0 => fun _ h => absurd h List.not_mem_nil
  | 1 => fun _ h => absurd h List.not_mem_nil
  | 2 => fun _ h => absurd h List.not_mem_nil
  | 3 => by decide +kernel
  | 4 => fun _ h => absurd h List.not_mem_nil
  | 5 => fun _ h => absurd h List.not_mem_nil
  | 6 => fun _ h => absurd h List.not_mem_nil
  | 7 => fun _ h => absurd h List.not_mem_nil
  | 8 => fun _ h => absurd h List.not_mem_nil
  | 9 => fun _ h => absurd h List.not_mem_nil
  | 10 => fun _ h => absurd h List.not_mem_nil
  | 11 => fun _ h => absurd h List.not_mem_nil
  | 12 => fun _ h => absurd h List.not_mem_nil
  | 13 => fun _ h => absurd h List.not_mem_nil
  | 14 => fun _ h => absurd h List.not_mem_nil
  | 15 => fun _ h => absurd h List.not_mem_nil
  | 16 => fun _ h => absurd h List.not_mem_nil
  | 17 => fun _ h => absurd h List.not_mem_nil
  | 18 => fun _ h => absurd h List.not_mem_nil
  | 19 => fun _ h => absurd h List.not_mem_nil
  | _ + 20 => fun _ h => absurd h List.not_mem_nil
theorem ma_sf0 : ma_wd 1251 (.fieldLink (ma_on 10) 9 "java/lang/String" "value" "[B") = true := by decide +kernel
theorem ma_sf1 : ma_wd 1252 (.fieldLink (ma_on 10) 15 "java/lang/String" "coder" "B") = true := by decide +kernel
theorem ma_ss0 : ma_wd 259 (.fieldLink (ma_on 10) 38 "java/lang/String" "COMPACT_STRINGS" "Z") = true := by decide +kernel
theorem ma_ss1 : ma_wd 275 (.fieldLink (ma_on 10) 1053 "jdk/internal/util/Preconditions" "SIOOBE_FORMATTER" "Ljava/util/function/BiFunction;") = true := by decide +kernel
theorem ma_n0 : ma_wd 473 (.static Lib.Math.max.name) = true := by decide +kernel
theorem ma_n1 : ma_wd 470 (.static Lib.Math.min.name) = true := by decide +kernel
theorem ma_n2 : ma_wd 14 (.initialized "java/lang/Math") = true := by decide +kernel
theorem ma_n3 : ma_wd 474 (.code Lib.Math.max.name Lib.Math.max.code 2 (some .int)) = true := by decide +kernel
theorem ma_n4 : ma_wd 471 (.code Lib.Math.min.name Lib.Math.min.code 2 (some .int)) = true := by decide +kernel
theorem ma_n5 : ma_wd 365 (.native arraycopyName) = true := by decide +kernel
theorem ma_n6 : ma_wd 364 (.static arraycopyName) = true := by decide +kernel
theorem ma_n7 : ma_wd 12 (.initialized "java/lang/System") = true := by decide +kernel
theorem ma_n8 : ma_wd 21 (.instanceMethod Lib.objectInit) = true := by decide +kernel
theorem ma_n9 : ma_wd 22 (.code Lib.objectInit ⟨#[0xb1]⟩ 1 none) = true := by decide +kernel
theorem ma_na0 : ma_wd 85 (.arrayClass .int) = true := by decide +kernel
theorem ma_na1 : ma_wd 113 (.arrayClass .byte) = true := by decide +kernel
theorem ma_na2 : ma_wd 168 (.arrayClass .long) = true := by decide +kernel
theorem ma_nq0 : ma_wd 114 (.classLink (ma_on 5) 33 RX1) = true := by decide +kernel
theorem ma_nq1 : ma_wd 116 (.classLink (ma_on 5) 39 RX2) = true := by decide +kernel
end
section
/-- a method's own words: its code, its class -/
def ma_mtk (t : ma_M) : Prop := Jvm.Cond.code t.2.2.2.2.1 t.2.1 t.2.2.1 t.2.2.2.1 ∈ ma_big ∧ Jvm.Cond.initialized t.2.2.2.2.1.cls ∈ ma_big ∧ t.2.2.2.2.1.cls = ma_on t.1 ∧ (t.2.2.2.2.1.cls ≠ "java/lang/invoke/MethodHandle" ∧ t.2.2.2.2.1.cls ≠ "java/lang/invoke/VarHandle") ∧ plainName t.2.2.2.2.1.cls = true
theorem ma_mtk_of {t : ma_M} (h1 : tables_1[t.2.2.2.2.2.2.1]? = some (.code t.2.2.2.2.1 t.2.1 t.2.2.1 t.2.2.2.1)) (h2 : ma_wd t.2.2.2.2.2.2.2 (.initialized t.2.2.2.2.1.cls) = true) (h3 : (decide (t.2.2.2.2.1.cls = ma_on t.1) && (decide (t.2.2.2.2.1.cls ≠ "java/lang/invoke/MethodHandle") && decide (t.2.2.2.2.1.cls ≠ "java/lang/invoke/VarHandle")) && plainName t.2.2.2.2.1.cls) = true) : ma_mtk t := by
  rw [Bool.and_eq_true, Bool.and_eq_true, Bool.and_eq_true, decide_eq_true_eq, decide_eq_true_eq, decide_eq_true_eq] at h3
  exact ⟨ma_tb_in (List.mem_of_getElem? h1) rfl, ma_wd_in h2, h3.1.1, h3.1.2, h3.2⟩
set_option maxRecDepth 100000 in
theorem mk_0 : ma_mtk (0, cX0_init, 1, none, yX0_init, 1, 122, 4) := ma_mtk_of rfl (by decide +kernel) (by decide +kernel)
set_option maxRecDepth 100000 in
theorem mk_1 : ma_mtk (0, cX0_perform, 4, (some .int), yX0_perform, 4, 685, 4) := ma_mtk_of rfl (by decide +kernel) (by decide +kernel)
set_option maxRecDepth 100000 in
theorem mk_2 : ma_mtk (0, cX0_turns, 3, (some .int), yX0_turns, 1, 689, 4) := ma_mtk_of rfl (by decide +kernel) (by decide +kernel)
set_option maxRecDepth 100000 in
theorem mk_3 : ma_mtk (0, cX0_began, 3, none, yX0_began, 0, 693, 4) := ma_mtk_of rfl (by decide +kernel) (by decide +kernel)
set_option maxRecDepth 100000 in
theorem mk_4 : ma_mtk (0, cX0_names, 3, (some .int), yX0_names, 2, 698, 4) := ma_mtk_of rfl (by decide +kernel) (by decide +kernel)
set_option maxRecDepth 100000 in
theorem mk_5 : ma_mtk (0, cX0_parts, 4, (some .int), yX0_parts, 2, 702, 4) := ma_mtk_of rfl (by decide +kernel) (by decide +kernel)
set_option maxRecDepth 100000 in
theorem mk_6 : ma_mtk (0, cX0_lands, 3, (some .int), yX0_lands, 3, 706, 4) := ma_mtk_of rfl (by decide +kernel) (by decide +kernel)
set_option maxRecDepth 100000 in
theorem mk_7 : ma_mtk (1, cX1_init, 1, none, yX1_init, 1, 151, 5) := ma_mtk_of rfl (by decide +kernel) (by decide +kernel)
set_option maxRecDepth 100000 in
theorem mk_8 : ma_mtk (1, cX1_isMissing, 1, (some .boolean), yX1_isMissing, 0, 584, 5) := ma_mtk_of rfl (by decide +kernel) (by decide +kernel)
set_option maxRecDepth 100000 in
theorem mk_9 : ma_mtk (1, cX1_begin, 4, none, yX1_begin, 0, 641, 5) := ma_mtk_of rfl (by decide +kernel) (by decide +kernel)
set_option maxRecDepth 100000 in
theorem mk_10 : ma_mtk (1, cX1_narrowed, 2, (some .long), yX1_narrowed, 0, 649, 5) := ma_mtk_of rfl (by decide +kernel) (by decide +kernel)
set_option maxRecDepth 100000 in
theorem mk_11 : ma_mtk (2, cX2_init, 1, none, yX2_init, 1, 172, 6) := ma_mtk_of rfl (by decide +kernel) (by decide +kernel)
set_option maxRecDepth 100000 in
theorem mk_12 : ma_mtk (2, cX2_takeLeaf, 2, none, yX2_takeLeaf, 0, 661, 6) := ma_mtk_of rfl (by decide +kernel) (by decide +kernel)
set_option maxRecDepth 100000 in
theorem mk_13 : ma_mtk (2, cX2_takeRow, 2, none, yX2_takeRow, 1, 665, 6) := ma_mtk_of rfl (by decide +kernel) (by decide +kernel)
set_option maxRecDepth 100000 in
theorem mk_14 : ma_mtk (3, cX3_init, 1, none, yX3_init, 1, 90, 3) := ma_mtk_of rfl (by decide +kernel) (by decide +kernel)
set_option maxRecDepth 100000 in
theorem mk_15 : ma_mtk (3, cX3_readInto, 5, (some .int), yX3_readInto, 8, 233, 3) := ma_mtk_of rfl (by decide +kernel) (by decide +kernel)
set_option maxRecDepth 100000 in
theorem mk_16 : ma_mtk (3, cX3_step, 1, none, yX3_step, 1, 237, 3) := ma_mtk_of rfl (by decide +kernel) (by decide +kernel)
set_option maxRecDepth 100000 in
theorem mk_17 : ma_mtk (3, cX3_sortAt, 3, (some .int), yX3_sortAt, 0, 241, 3) := ma_mtk_of rfl (by decide +kernel) (by decide +kernel)
set_option maxRecDepth 100000 in
theorem mk_18 : ma_mtk (3, cX3_lawNamed, 1, (some .int), yX3_lawNamed, 6, 245, 3) := ma_mtk_of rfl (by decide +kernel) (by decide +kernel)
set_option maxRecDepth 100000 in
theorem mk_19 : ma_mtk (3, cX3_isName, 3, (some .boolean), yX3_isName, 5, 250, 3) := ma_mtk_of rfl (by decide +kernel) (by decide +kernel)
set_option maxRecDepth 100000 in
theorem mk_20 : ma_mtk (3, cX3_kindNamed, 2, (some .int), yX3_kindNamed, 6, 305, 3) := ma_mtk_of rfl (by decide +kernel) (by decide +kernel)
set_option maxRecDepth 100000 in
theorem mk_21 : ma_mtk (3, cX3_kindName, 1, (some (.object "java/lang/String")), yX3_kindName, 0, 308, 3) := ma_mtk_of rfl (by decide +kernel) (by decide +kernel)
set_option maxRecDepth 100000 in
theorem mk_22 : ma_mtk (3, cX3_readLaw, 4, none, yX3_readLaw, 3, 318, 3) := ma_mtk_of rfl (by decide +kernel) (by decide +kernel)
set_option maxRecDepth 100000 in
theorem mk_23 : ma_mtk (3, cX3_number, 3, (some .int), yX3_number, 2, 325, 3) := ma_mtk_of rfl (by decide +kernel) (by decide +kernel)
set_option maxRecDepth 100000 in
theorem mk_24 : ma_mtk (3, cX3_value, 3, (some .int), yX3_value, 0, 329, 3) := ma_mtk_of rfl (by decide +kernel) (by decide +kernel)
set_option maxRecDepth 100000 in
theorem mk_25 : ma_mtk (3, cX3_passSemicolon, 2, (some .boolean), yX3_passSemicolon, 2, 333, 3) := ma_mtk_of rfl (by decide +kernel) (by decide +kernel)
set_option maxRecDepth 100000 in
theorem mk_26 : ma_mtk (3, cX3_readSway, 4, none, yX3_readSway, 7, 338, 3) := ma_mtk_of rfl (by decide +kernel) (by decide +kernel)
set_option maxRecDepth 100000 in
theorem mk_27 : ma_mtk (3, cX3_passName, 3, (some .boolean), yX3_passName, 6, 343, 3) := ma_mtk_of rfl (by decide +kernel) (by decide +kernel)
set_option maxRecDepth 100000 in
theorem mk_28 : ma_mtk (3, cX3_readLeaf, 6, none, yX3_readLeaf, 7, 347, 3) := ma_mtk_of rfl (by decide +kernel) (by decide +kernel)
set_option maxRecDepth 100000 in
theorem mk_29 : ma_mtk (3, cX3_numberNamed, 4, (some .int), yX3_numberNamed, 6, 353, 3) := ma_mtk_of rfl (by decide +kernel) (by decide +kernel)
set_option maxRecDepth 100000 in
theorem mk_30 : ma_mtk (4, cX4_init, 1, none, yX4_init, 1, 27, 2) := ma_mtk_of rfl (by decide +kernel) (by decide +kernel)
set_option maxRecDepth 100000 in
theorem mk_31 : ma_mtk (4, cX4_clear, 2, none, yX4_clear, 0, 32, 2) := ma_mtk_of rfl (by decide +kernel) (by decide +kernel)
set_option maxRecDepth 100000 in
theorem mk_32 : ma_mtk (4, cX4_grow, 5, none, yX4_grow, 0, 358, 2) := ma_mtk_of rfl (by decide +kernel) (by decide +kernel)
set_option maxRecDepth 100000 in
theorem mk_33 : ma_mtk (4, cX4_become, 2, none, yX4_become, 1, 362, 2) := ma_mtk_of rfl (by decide +kernel) (by decide +kernel)
set_option maxRecDepth 100000 in
theorem mk_34 : ma_mtk (4, cX4_has, 2, (some .boolean), yX4_has, 0, 387, 2) := ma_mtk_of rfl (by decide +kernel) (by decide +kernel)
set_option maxRecDepth 100000 in
theorem mk_35 : ma_mtk (4, cX4_hangs, 2, (some .boolean), yX4_hangs, 0, 391, 2) := ma_mtk_of rfl (by decide +kernel) (by decide +kernel)
set_option maxRecDepth 100000 in
theorem mk_36 : ma_mtk (4, cX4_mates, 2, (some .int), yX4_mates, 2, 395, 2) := ma_mtk_of rfl (by decide +kernel) (by decide +kernel)
set_option maxRecDepth 100000 in
theorem mk_37 : ma_mtk (4, cX4_hangingOn, 4, (some .int), yX4_hangingOn, 1, 399, 2) := ma_mtk_of rfl (by decide +kernel) (by decide +kernel)
set_option maxRecDepth 100000 in
theorem mk_38 : ma_mtk (4, cX4_loses, 3, (some .int), yX4_loses, 3, 414, 2) := ma_mtk_of rfl (by decide +kernel) (by decide +kernel)
set_option maxRecDepth 100000 in
theorem mk_39 : ma_mtk (4, cX4_rank, 3, (some .int), yX4_rank, 0, 419, 2) := ma_mtk_of rfl (by decide +kernel) (by decide +kernel)
set_option maxRecDepth 100000 in
theorem mk_40 : ma_mtk (4, cX4_fell, 2, none, yX4_fell, 0, 439, 2) := ma_mtk_of rfl (by decide +kernel) (by decide +kernel)
set_option maxRecDepth 100000 in
theorem mk_41 : ma_mtk (4, cX4_hanging, 1, (some .int), yX4_hanging, 0, 443, 2) := ma_mtk_of rfl (by decide +kernel) (by decide +kernel)
set_option maxRecDepth 100000 in
theorem mk_42 : ma_mtk (4, cX4_passDay, 2, (some .int), yX4_passDay, 4, 460, 2) := ma_mtk_of rfl (by decide +kernel) (by decide +kernel)
set_option maxRecDepth 100000 in
theorem mk_43 : ma_mtk (4, cX4_isTied, 2, (some .boolean), yX4_isTied, 0, 464, 2) := ma_mtk_of rfl (by decide +kernel) (by decide +kernel)
set_option maxRecDepth 100000 in
theorem mk_44 : ma_mtk (4, cX4_faller, 3, (some .int), yX4_faller, 1, 478, 2) := ma_mtk_of rfl (by decide +kernel) (by decide +kernel)
set_option maxRecDepth 100000 in
theorem mk_45 : ma_mtk (4, cX4_passDayByDraws, 2, (some .int), yX4_passDayByDraws, 5, 492, 2) := ma_mtk_of rfl (by decide +kernel) (by decide +kernel)
set_option maxRecDepth 100000 in
theorem mk_46 : ma_mtk (4, cX4_drawn, 1, (some .int), yX4_drawn, 0, 496, 2) := ma_mtk_of rfl (by decide +kernel) (by decide +kernel)
set_option maxRecDepth 100000 in
theorem mk_47 : ma_mtk (4, cX4_signWritten, 3, (some .int), yX4_signWritten, 0, 510, 2) := ma_mtk_of rfl (by decide +kernel) (by decide +kernel)
set_option maxRecDepth 100000 in
theorem mk_48 : ma_mtk (4, cX4_hangingSet, 3, (some .int), yX4_hangingSet, 1, 518, 2) := ma_mtk_of rfl (by decide +kernel) (by decide +kernel)
set_option maxRecDepth 100000 in
theorem mk_49 : ma_mtk (4, cX4_holdTogether, 3, (some .int), yX4_holdTogether, 1, 522, 2) := ma_mtk_of rfl (by decide +kernel) (by decide +kernel)
set_option maxRecDepth 100000 in
theorem mk_50 : ma_mtk (4, cX4_rhymes, 3, (some .int), yX4_rhymes, 1, 526, 2) := ma_mtk_of rfl (by decide +kernel) (by decide +kernel)
set_option maxRecDepth 100000 in
theorem mk_51 : ma_mtk (4, cX4_spelled, 3, (some .int), yX4_spelled, 1, 531, 2) := ma_mtk_of rfl (by decide +kernel) (by decide +kernel)
set_option maxRecDepth 100000 in
theorem mk_52 : ma_mtk (4, cX4_swayTogether, 3, (some .int), yX4_swayTogether, 0, 535, 2) := ma_mtk_of rfl (by decide +kernel) (by decide +kernel)
set_option maxRecDepth 100000 in
theorem mk_53 : ma_mtk (4, cX4_boughsHungOn, 3, (some .int), yX4_boughsHungOn, 2, 718, 2) := ma_mtk_of rfl (by decide +kernel) (by decide +kernel)
set_option maxRecDepth 100000 in
theorem mk_54 : ma_mtk (5, cX5_init, 2, none, yX5_init, 2, 19, 1) := ma_mtk_of rfl (by decide +kernel) (by decide +kernel)
set_option maxRecDepth 100000 in
theorem mk_55 : ma_mtk (5, cX5_feed, 5, (some .int), yX5_feed, 1, 221, 1) := ma_mtk_of rfl (by decide +kernel) (by decide +kernel)
set_option maxRecDepth 100000 in
theorem mk_56 : ma_mtk (5, cX5_isWithin, 3, (some .boolean), yX5_isWithin, 0, 224, 1) := ma_mtk_of rfl (by decide +kernel) (by decide +kernel)
set_option maxRecDepth 100000 in
theorem mk_57 : ma_mtk (5, cX5_autumn, 2, (some .int), yX5_autumn, 9, 228, 1) := ma_mtk_of rfl (by decide +kernel) (by decide +kernel)
set_option maxRecDepth 100000 in
theorem mk_58 : ma_mtk (5, cX5_mostOfLaw, 1, (some .int), yX5_mostOfLaw, 0, 321, 1) := ma_mtk_of rfl (by decide +kernel) (by decide +kernel)
set_option maxRecDepth 100000 in
theorem mk_59 : ma_mtk (5, cX5_set, 4, (some .int), yX5_set, 1, 369, 1) := ma_mtk_of rfl (by decide +kernel) (by decide +kernel)
set_option maxRecDepth 100000 in
theorem mk_60 : ma_mtk (5, cX5_lawOf, 2, (some .int), yX5_lawOf, 1, 374, 1) := ma_mtk_of rfl (by decide +kernel) (by decide +kernel)
set_option maxRecDepth 100000 in
theorem mk_61 : ma_mtk (5, cX5_leaf, 5, (some .int), yX5_leaf, 1, 378, 1) := ma_mtk_of rfl (by decide +kernel) (by decide +kernel)
set_option maxRecDepth 100000 in
theorem mk_62 : ma_mtk (5, cX5_of, 3, (some .int), yX5_of, 3, 383, 1) := ma_mtk_of rfl (by decide +kernel) (by decide +kernel)
set_option maxRecDepth 100000 in
theorem mk_63 : ma_mtk (5, cX5_does, 3, (some .int), yX5_does, 4, 410, 1) := ma_mtk_of rfl (by decide +kernel) (by decide +kernel)
set_option maxRecDepth 100000 in
theorem mk_64 : ma_mtk (5, cX5_mind, 5, (some .int), yX5_mind, 1, 423, 1) := ma_mtk_of rfl (by decide +kernel) (by decide +kernel)
set_option maxRecDepth 100000 in
theorem mk_65 : ma_mtk (5, cX5_hold, 4, (some .int), yX5_hold, 1, 427, 1) := ma_mtk_of rfl (by decide +kernel) (by decide +kernel)
set_option maxRecDepth 100000 in
theorem mk_66 : ma_mtk (5, cX5_move, 4, (some .int), yX5_move, 1, 431, 1) := ma_mtk_of rfl (by decide +kernel) (by decide +kernel)
set_option maxRecDepth 100000 in
theorem mk_67 : ma_mtk (5, cX5_pluck, 2, (some .int), yX5_pluck, 1, 435, 1) := ma_mtk_of rfl (by decide +kernel) (by decide +kernel)
set_option maxRecDepth 100000 in
theorem mk_68 : ma_mtk (5, cX5_bough, 3, (some .int), yX5_bough, 2, 447, 1) := ma_mtk_of rfl (by decide +kernel) (by decide +kernel)
set_option maxRecDepth 100000 in
theorem mk_69 : ma_mtk (5, cX5_sway, 4, (some .int), yX5_sway, 1, 452, 1) := ma_mtk_of rfl (by decide +kernel) (by decide +kernel)
set_option maxRecDepth 100000 in
theorem mk_70 : ma_mtk (5, cX5_days, 3, (some .int), yX5_days, 5, 456, 1) := ma_mtk_of rfl (by decide +kernel) (by decide +kernel)
set_option maxRecDepth 100000 in
theorem mk_71 : ma_mtk (5, cX5_held, 1, (some .int), yX5_held, 1, 468, 1) := ma_mtk_of rfl (by decide +kernel) (by decide +kernel)
set_option maxRecDepth 100000 in
theorem mk_72 : ma_mtk (5, cX5_seed, 3, (some .int), yX5_seed, 0, 484, 1) := ma_mtk_of rfl (by decide +kernel) (by decide +kernel)
set_option maxRecDepth 100000 in
theorem mk_73 : ma_mtk (5, cX5_day, 1, (some .int), yX5_day, 6, 488, 1) := ma_mtk_of rfl (by decide +kernel) (by decide +kernel)
set_option maxRecDepth 100000 in
theorem mk_74 : ma_mtk (5, cX5_lost, 6, (some .int), yX5_lost, 6, 502, 1) := ma_mtk_of rfl (by decide +kernel) (by decide +kernel)
set_option maxRecDepth 100000 in
theorem mk_75 : ma_mtk (5, cX5_written, 2, (some .int), yX5_written, 1, 506, 1) := ma_mtk_of rfl (by decide +kernel) (by decide +kernel)
set_option maxRecDepth 100000 in
theorem mk_76 : ma_mtk (5, cX5_state, 2, (some .int), yX5_state, 2, 514, 1) := ma_mtk_of rfl (by decide +kernel) (by decide +kernel)
set_option maxRecDepth 100000 in
theorem mk_77 : ma_mtk (5, cX5_falls, 3, (some .int), yX5_falls, 6, 539, 1) := ma_mtk_of rfl (by decide +kernel) (by decide +kernel)
set_option maxRecDepth 100000 in
theorem mk_78 : ma_mtk (5, cX5_daysToFall, 3, (some .int), yX5_daysToFall, 5, 543, 1) := ma_mtk_of rfl (by decide +kernel) (by decide +kernel)
set_option maxRecDepth 100000 in
theorem mk_79 : ma_mtk (5, cX5_bare, 2, (some .int), yX5_bare, 5, 547, 1) := ma_mtk_of rfl (by decide +kernel) (by decide +kernel)
set_option maxRecDepth 100000 in
theorem mk_80 : ma_mtk (5, cX5_next, 3, (some .int), yX5_next, 5, 551, 1) := ma_mtk_of rfl (by decide +kernel) (by decide +kernel)
set_option maxRecDepth 100000 in
theorem mk_81 : ma_mtk (5, cX5_latest, 4, (some .int), yX5_latest, 5, 555, 1) := ma_mtk_of rfl (by decide +kernel) (by decide +kernel)
set_option maxRecDepth 100000 in
theorem mk_82 : ma_mtk (5, cX5_boughFor, 6, (some .int), yX5_boughFor, 6, 559, 1) := ma_mtk_of rfl (by decide +kernel) (by decide +kernel)
set_option maxRecDepth 100000 in
theorem mk_83 : ma_mtk (5, cX5_kindFor, 6, (some .int), yX5_kindFor, 6, 563, 1) := ma_mtk_of rfl (by decide +kernel) (by decide +kernel)
set_option maxRecDepth 100000 in
theorem mk_84 : ma_mtk (5, cX5_holdFor, 4, (some .int), yX5_holdFor, 6, 567, 1) := ma_mtk_of rfl (by decide +kernel) (by decide +kernel)
set_option maxRecDepth 100000 in
theorem mk_85 : ma_mtk (5, cX5_hangsBehind, 4, (some .boolean), yX5_hangsBehind, 5, 571, 1) := ma_mtk_of rfl (by decide +kernel) (by decide +kernel)
set_option maxRecDepth 100000 in
theorem mk_86 : ma_mtk (5, cX5_tiedFor, 7, (some .int), yX5_tiedFor, 6, 575, 1) := ma_mtk_of rfl (by decide +kernel) (by decide +kernel)
set_option maxRecDepth 100000 in
theorem mk_87 : ma_mtk (5, cX5_fits, 7, (some .int), yX5_fits, 6, 580, 1) := ma_mtk_of rfl (by decide +kernel) (by decide +kernel)
set_option maxRecDepth 100000 in
theorem mk_88 : ma_mtk (5, cX5_fitsWithHold, 7, (some .boolean), yX5_fitsWithHold, 5, 588, 1) := ma_mtk_of rfl (by decide +kernel) (by decide +kernel)
set_option maxRecDepth 100000 in
theorem mk_89 : ma_mtk (5, cX5_odds, 11, (some .long), yX5_odds, 1, 593, 1) := ma_mtk_of rfl (by decide +kernel) (by decide +kernel)
set_option maxRecDepth 100000 in
theorem mk_90 : ma_mtk (5, cX5_ways, 5, (some .long), yX5_ways, 0, 596, 1) := ma_mtk_of rfl (by decide +kernel) (by decide +kernel)
set_option maxRecDepth 100000 in
theorem mk_91 : ma_mtk (5, cX5_partOf, 12, (some .long), yX5_partOf, 0, 600, 1) := ma_mtk_of rfl (by decide +kernel) (by decide +kernel)
set_option maxRecDepth 100000 in
theorem mk_92 : ma_mtk (5, cX5_hope, 3, (some .long), yX5_hope, 1, 604, 1) := ma_mtk_of rfl (by decide +kernel) (by decide +kernel)
set_option maxRecDepth 100000 in
theorem mk_93 : ma_mtk (5, cX5_prove, 5, (some .int), yX5_prove, 5, 608, 1) := ma_mtk_of rfl (by decide +kernel) (by decide +kernel)
set_option maxRecDepth 100000 in
theorem mk_94 : ma_mtk (5, cX5_rowPartTried, 3, (some .int), yX5_rowPartTried, 1, 612, 1) := ma_mtk_of rfl (by decide +kernel) (by decide +kernel)
set_option maxRecDepth 100000 in
theorem mk_95 : ma_mtk (5, cX5_row, 3, (some .int), yX5_row, 2, 616, 1) := ma_mtk_of rfl (by decide +kernel) (by decide +kernel)
set_option maxRecDepth 100000 in
theorem mk_96 : ma_mtk (5, cX5_isRowPart, 3, (some .boolean), yX5_isRowPart, 1, 620, 1) := ma_mtk_of rfl (by decide +kernel) (by decide +kernel)
set_option maxRecDepth 100000 in
theorem mk_97 : ma_mtk (5, cX5_alterRow, 5, (some .int), yX5_alterRow, 2, 624, 1) := ma_mtk_of rfl (by decide +kernel) (by decide +kernel)
set_option maxRecDepth 100000 in
theorem mk_98 : ma_mtk (5, cX5_judge, 4, (some .int), yX5_judge, 5, 628, 1) := ma_mtk_of rfl (by decide +kernel) (by decide +kernel)
set_option maxRecDepth 100000 in
theorem mk_99 : ma_mtk (5, cX5_minds, 7, (some .int), yX5_minds, 2, 632, 1) := ma_mtk_of rfl (by decide +kernel) (by decide +kernel)
set_option maxRecDepth 100000 in
theorem mk_100 : ma_mtk (5, cX5_sheet, 4, (some .int), yX5_sheet, 1, 637, 1) := ma_mtk_of rfl (by decide +kernel) (by decide +kernel)
set_option maxRecDepth 100000 in
theorem mk_101 : ma_mtk (5, cX5_put, 5, (some .int), yX5_put, 1, 645, 1) := ma_mtk_of rfl (by decide +kernel) (by decide +kernel)
set_option maxRecDepth 100000 in
theorem mk_102 : ma_mtk (5, cX5_item, 5, (some .int), yX5_item, 1, 653, 1) := ma_mtk_of rfl (by decide +kernel) (by decide +kernel)
set_option maxRecDepth 100000 in
theorem mk_103 : ma_mtk (5, cX5_shelf, 5, (some .int), yX5_shelf, 2, 657, 1) := ma_mtk_of rfl (by decide +kernel) (by decide +kernel)
set_option maxRecDepth 100000 in
theorem mk_104 : ma_mtk (5, cX5_taken, 5, (some .int), yX5_taken, 2, 670, 1) := ma_mtk_of rfl (by decide +kernel) (by decide +kernel)
set_option maxRecDepth 100000 in
theorem mk_105 : ma_mtk (5, cX5_isNothing, 2, (some .boolean), yX5_isNothing, 1, 674, 1) := ma_mtk_of rfl (by decide +kernel) (by decide +kernel)
set_option maxRecDepth 100000 in
theorem mk_106 : ma_mtk (5, cX5_isUnder, 2, (some .boolean), yX5_isUnder, 0, 677, 1) := ma_mtk_of rfl (by decide +kernel) (by decide +kernel)
set_option maxRecDepth 100000 in
theorem mk_107 : ma_mtk (5, cX5_act, 5, (some .int), yX5_act, 5, 681, 1) := ma_mtk_of rfl (by decide +kernel) (by decide +kernel)
set_option maxRecDepth 100000 in
theorem mk_108 : ma_mtk (5, cX5_trace, 2, (some .int), yX5_trace, 1, 710, 1) := ma_mtk_of rfl (by decide +kernel) (by decide +kernel)
set_option maxRecDepth 100000 in
theorem mk_109 : ma_mtk (5, cX5_many, 2, (some .int), yX5_many, 3, 714, 1) := ma_mtk_of rfl (by decide +kernel) (by decide +kernel)
set_option maxRecDepth 100000 in
theorem mk_110 : ma_mtk (5, cX5_keep, 1, (some .int), yX5_keep, 2, 722, 1) := ma_mtk_of rfl (by decide +kernel) (by decide +kernel)
set_option maxRecDepth 100000 in
theorem mk_111 : ma_mtk (5, cX5_again, 1, (some .int), yX5_again, 2, 726, 1) := ma_mtk_of rfl (by decide +kernel) (by decide +kernel)
set_option maxRecDepth 100000 in
theorem mk_112 : ma_mtk (6, cX6_init, 1, none, yX6_init, 1, 731, 7) := ma_mtk_of rfl (by decide +kernel) (by decide +kernel)
set_option maxRecDepth 100000 in
theorem mk_113 : ma_mtk (6, cX6_begins, 3, none, yX6_begins, 0, 736, 7) := ma_mtk_of rfl (by decide +kernel) (by decide +kernel)
set_option maxRecDepth 100000 in
theorem mk_114 : ma_mtk (6, cX6_feed, 5, (some .int), yX6_feed, 1, 822, 7) := ma_mtk_of rfl (by decide +kernel) (by decide +kernel)
set_option maxRecDepth 100000 in
theorem mk_115 : ma_mtk (6, cX6_isIn, 6, (some .boolean), yX6_isIn, 0, 826, 7) := ma_mtk_of rfl (by decide +kernel) (by decide +kernel)
set_option maxRecDepth 100000 in
theorem mk_116 : ma_mtk (6, cX6_autumn, 1, (some .int), yX6_autumn, 7, 831, 7) := ma_mtk_of rfl (by decide +kernel) (by decide +kernel)
set_option maxRecDepth 100000 in
theorem mk_117 : ma_mtk (6, cX6_copyRow, 3, none, yX6_copyRow, 0, 834, 7) := ma_mtk_of rfl (by decide +kernel) (by decide +kernel)
set_option maxRecDepth 100000 in
theorem mk_118 : ma_mtk (6, cX6_nextToken, 2, none, yX6_nextToken, 1, 838, 7) := ma_mtk_of rfl (by decide +kernel) (by decide +kernel)
set_option maxRecDepth 100000 in
theorem mk_119 : ma_mtk (6, cX6_byteAt, 2, (some .int), yX6_byteAt, 0, 842, 7) := ma_mtk_of rfl (by decide +kernel) (by decide +kernel)
set_option maxRecDepth 100000 in
theorem mk_120 : ma_mtk (6, cX6_isAlpha, 1, (some .boolean), yX6_isAlpha, 0, 845, 7) := ma_mtk_of rfl (by decide +kernel) (by decide +kernel)
set_option maxRecDepth 100000 in
theorem mk_121 : ma_mtk (6, cX6_isDigit, 1, (some .boolean), yX6_isDigit, 0, 848, 7) := ma_mtk_of rfl (by decide +kernel) (by decide +kernel)
set_option maxRecDepth 100000 in
theorem mk_122 : ma_mtk (6, cX6_itemHere, 3, none, yX6_itemHere, 6, 852, 7) := ma_mtk_of rfl (by decide +kernel) (by decide +kernel)
set_option maxRecDepth 100000 in
theorem mk_123 : ma_mtk (6, cX6_kindHere, 1, (some .int), yX6_kindHere, 3, 856, 7) := ma_mtk_of rfl (by decide +kernel) (by decide +kernel)
set_option maxRecDepth 100000 in
theorem mk_124 : ma_mtk (6, cX6_isFour, 5, (some .boolean), yX6_isFour, 2, 860, 7) := ma_mtk_of rfl (by decide +kernel) (by decide +kernel)
set_option maxRecDepth 100000 in
theorem mk_125 : ma_mtk (6, cX6_isName, 6, (some .boolean), yX6_isName, 1, 864, 7) := ma_mtk_of rfl (by decide +kernel) (by decide +kernel)
set_option maxRecDepth 100000 in
theorem mk_126 : ma_mtk (6, cX6_isSame, 5, (some .boolean), yX6_isSame, 1, 868, 7) := ma_mtk_of rfl (by decide +kernel) (by decide +kernel)
set_option maxRecDepth 100000 in
theorem mk_127 : ma_mtk (6, cX6_lawHere, 1, (some .int), yX6_lawHere, 3, 872, 7) := ma_mtk_of rfl (by decide +kernel) (by decide +kernel)
set_option maxRecDepth 100000 in
theorem mk_128 : ma_mtk (6, cX6_leafHere, 3, none, yX6_leafHere, 5, 876, 7) := ma_mtk_of rfl (by decide +kernel) (by decide +kernel)
set_option maxRecDepth 100000 in
theorem mk_129 : ma_mtk (6, cX6_needs, 2, none, yX6_needs, 2, 880, 7) := ma_mtk_of rfl (by decide +kernel) (by decide +kernel)
set_option maxRecDepth 100000 in
theorem mk_130 : ma_mtk (6, cX6_isTwo, 3, (some .boolean), yX6_isTwo, 1, 884, 7) := ma_mtk_of rfl (by decide +kernel) (by decide +kernel)
set_option maxRecDepth 100000 in
theorem mk_131 : ma_mtk (6, cX6_numberTo, 4, none, yX6_numberTo, 3, 888, 7) := ma_mtk_of rfl (by decide +kernel) (by decide +kernel)
set_option maxRecDepth 100000 in
theorem mk_132 : ma_mtk (6, cX6_perhaps, 4, none, yX6_perhaps, 4, 892, 7) := ma_mtk_of rfl (by decide +kernel) (by decide +kernel)
set_option maxRecDepth 100000 in
theorem mk_133 : ma_mtk (6, cX6_swayHere, 2, none, yX6_swayHere, 4, 896, 7) := ma_mtk_of rfl (by decide +kernel) (by decide +kernel)
set_option maxRecDepth 100000 in
theorem mk_134 : ma_mtk (6, cX6_set, 3, (some .int), yX6_set, 1, 900, 7) := ma_mtk_of rfl (by decide +kernel) (by decide +kernel)
set_option maxRecDepth 100000 in
theorem mk_135 : ma_mtk (6, cX6_becomes, 4, (some .int), yX6_becomes, 0, 907, 7) := ma_mtk_of rfl (by decide +kernel) (by decide +kernel)
set_option maxRecDepth 100000 in
theorem mk_136 : ma_mtk (6, cX6_lawOf, 2, (some .int), yX6_lawOf, 1, 911, 7) := ma_mtk_of rfl (by decide +kernel) (by decide +kernel)
set_option maxRecDepth 100000 in
theorem mk_137 : ma_mtk (6, cX6_leaf, 6, (some .int), yX6_leaf, 1, 915, 7) := ma_mtk_of rfl (by decide +kernel) (by decide +kernel)
set_option maxRecDepth 100000 in
theorem mk_138 : ma_mtk (6, cX6_isBough, 1, (some .boolean), yX6_isBough, 0, 919, 7) := ma_mtk_of rfl (by decide +kernel) (by decide +kernel)
set_option maxRecDepth 100000 in
theorem mk_139 : ma_mtk (6, cX6_of, 3, (some .int), yX6_of, 3, 923, 7) := ma_mtk_of rfl (by decide +kernel) (by decide +kernel)
set_option maxRecDepth 100000 in
theorem mk_140 : ma_mtk (6, cX6_isOne, 2, (some .boolean), yX6_isOne, 0, 927, 7) := ma_mtk_of rfl (by decide +kernel) (by decide +kernel)
set_option maxRecDepth 100000 in
theorem mk_141 : ma_mtk (6, cX6_mates, 2, (some .int), yX6_mates, 2, 932, 7) := ma_mtk_of rfl (by decide +kernel) (by decide +kernel)
set_option maxRecDepth 100000 in
theorem mk_142 : ma_mtk (6, cX6_its, 3, (some .int), yX6_its, 0, 936, 7) := ma_mtk_of rfl (by decide +kernel) (by decide +kernel)
set_option maxRecDepth 100000 in
theorem mk_143 : ma_mtk (6, cX6_hangingOn, 4, (some .int), yX6_hangingOn, 1, 940, 7) := ma_mtk_of rfl (by decide +kernel) (by decide +kernel)
set_option maxRecDepth 100000 in
theorem mk_144 : ma_mtk (6, cX6_size, 3, (some .int), yX6_size, 0, 943, 7) := ma_mtk_of rfl (by decide +kernel) (by decide +kernel)
set_option maxRecDepth 100000 in
theorem mk_145 : ma_mtk (6, cX6_does, 3, (some .int), yX6_does, 4, 947, 7) := ma_mtk_of rfl (by decide +kernel) (by decide +kernel)
set_option maxRecDepth 100000 in
theorem mk_146 : ma_mtk (6, cX6_loses, 3, (some .int), yX6_loses, 3, 951, 7) := ma_mtk_of rfl (by decide +kernel) (by decide +kernel)
set_option maxRecDepth 100000 in
theorem mk_147 : ma_mtk (6, cX6_rank, 3, (some .int), yX6_rank, 1, 955, 7) := ma_mtk_of rfl (by decide +kernel) (by decide +kernel)
set_option maxRecDepth 100000 in
theorem mk_148 : ma_mtk (6, cX6_mind, 4, (some .int), yX6_mind, 1, 959, 7) := ma_mtk_of rfl (by decide +kernel) (by decide +kernel)
set_option maxRecDepth 100000 in
theorem mk_149 : ma_mtk (6, cX6_hold, 3, (some .int), yX6_hold, 1, 963, 7) := ma_mtk_of rfl (by decide +kernel) (by decide +kernel)
set_option maxRecDepth 100000 in
theorem mk_150 : ma_mtk (6, cX6_move, 3, (some .int), yX6_move, 1, 967, 7) := ma_mtk_of rfl (by decide +kernel) (by decide +kernel)
set_option maxRecDepth 100000 in
theorem mk_151 : ma_mtk (6, cX6_pluck, 2, (some .int), yX6_pluck, 2, 971, 7) := ma_mtk_of rfl (by decide +kernel) (by decide +kernel)
set_option maxRecDepth 100000 in
theorem mk_152 : ma_mtk (6, cX6_falls0, 2, none, yX6_falls0, 0, 975, 7) := ma_mtk_of rfl (by decide +kernel) (by decide +kernel)
set_option maxRecDepth 100000 in
theorem mk_153 : ma_mtk (6, cX6_hanging, 3, (some .int), yX6_hanging, 1, 979, 7) := ma_mtk_of rfl (by decide +kernel) (by decide +kernel)
set_option maxRecDepth 100000 in
theorem mk_154 : ma_mtk (6, cX6_bough, 3, (some .int), yX6_bough, 2, 983, 7) := ma_mtk_of rfl (by decide +kernel) (by decide +kernel)
set_option maxRecDepth 100000 in
theorem mk_155 : ma_mtk (6, cX6_sway, 3, (some .int), yX6_sway, 1, 987, 7) := ma_mtk_of rfl (by decide +kernel) (by decide +kernel)
set_option maxRecDepth 100000 in
theorem mk_156 : ma_mtk (6, cX6_days, 4, (some .int), yX6_days, 5, 991, 7) := ma_mtk_of rfl (by decide +kernel) (by decide +kernel)
set_option maxRecDepth 100000 in
theorem mk_157 : ma_mtk (6, cX6_goesBy, 5, (some .int), yX6_goesBy, 4, 996, 7) := ma_mtk_of rfl (by decide +kernel) (by decide +kernel)
set_option maxRecDepth 100000 in
theorem mk_158 : ma_mtk (6, cX6_within, 1, (some .int), yX6_within, 0, 999, 7) := ma_mtk_of rfl (by decide +kernel) (by decide +kernel)
set_option maxRecDepth 100000 in
theorem mk_159 : ma_mtk (6, cX6_seed, 2, (some .int), yX6_seed, 1, 1003, 7) := ma_mtk_of rfl (by decide +kernel) (by decide +kernel)
set_option maxRecDepth 100000 in
theorem mk_160 : ma_mtk (6, cX6_day, 2, (some .int), yX6_day, 6, 1007, 7) := ma_mtk_of rfl (by decide +kernel) (by decide +kernel)
set_option maxRecDepth 100000 in
theorem mk_161 : ma_mtk (6, cX6_goesByDraws, 2, (some .int), yX6_goesByDraws, 5, 1011, 7) := ma_mtk_of rfl (by decide +kernel) (by decide +kernel)
set_option maxRecDepth 100000 in
theorem mk_162 : ma_mtk (6, cX6_drawn, 1, (some .int), yX6_drawn, 0, 1015, 7) := ma_mtk_of rfl (by decide +kernel) (by decide +kernel)
set_option maxRecDepth 100000 in
theorem mk_163 : ma_mtk (6, cX6_lost, 6, (some .int), yX6_lost, 6, 1020, 7) := ma_mtk_of rfl (by decide +kernel) (by decide +kernel)
set_option maxRecDepth 100000 in
theorem mk_164 : ma_mtk (6, cX6_written, 2, (some .int), yX6_written, 2, 1025, 7) := ma_mtk_of rfl (by decide +kernel) (by decide +kernel)
set_option maxRecDepth 100000 in
theorem mk_165 : ma_mtk (6, cX6_signOf, 4, (some .int), yX6_signOf, 1, 1029, 7) := ma_mtk_of rfl (by decide +kernel) (by decide +kernel)
set_option maxRecDepth 100000 in
theorem mk_166 : ma_mtk (6, cX6_state, 2, (some .int), yX6_state, 3, 1033, 7) := ma_mtk_of rfl (by decide +kernel) (by decide +kernel)
set_option maxRecDepth 100000 in
theorem mk_167 : ma_mtk (6, cX6_holdOfAll, 3, (some .int), yX6_holdOfAll, 1, 1037, 7) := ma_mtk_of rfl (by decide +kernel) (by decide +kernel)
set_option maxRecDepth 100000 in
theorem mk_168 : ma_mtk (6, cX6_rhymes, 3, (some .int), yX6_rhymes, 2, 1041, 7) := ma_mtk_of rfl (by decide +kernel) (by decide +kernel)
set_option maxRecDepth 100000 in
theorem mk_169 : ma_mtk (6, cX6_spelled, 3, (some .int), yX6_spelled, 2, 1045, 7) := ma_mtk_of rfl (by decide +kernel) (by decide +kernel)
set_option maxRecDepth 100000 in
theorem mk_170 : ma_mtk (6, cX6_swayOfAll, 3, (some .int), yX6_swayOfAll, 0, 1049, 7) := ma_mtk_of rfl (by decide +kernel) (by decide +kernel)
set_option maxRecDepth 100000 in
theorem mk_171 : ma_mtk (6, cX6_falls, 3, (some .int), yX6_falls, 6, 1053, 7) := ma_mtk_of rfl (by decide +kernel) (by decide +kernel)
set_option maxRecDepth 100000 in
theorem mk_172 : ma_mtk (6, cX6_fallsBy, 4, (some .int), yX6_fallsBy, 5, 1057, 7) := ma_mtk_of rfl (by decide +kernel) (by decide +kernel)
set_option maxRecDepth 100000 in
theorem mk_173 : ma_mtk (6, cX6_bare, 3, (some .int), yX6_bare, 5, 1061, 7) := ma_mtk_of rfl (by decide +kernel) (by decide +kernel)
set_option maxRecDepth 100000 in
theorem mk_174 : ma_mtk (6, cX6_next, 3, (some .int), yX6_next, 5, 1065, 7) := ma_mtk_of rfl (by decide +kernel) (by decide +kernel)
set_option maxRecDepth 100000 in
theorem mk_175 : ma_mtk (6, cX6_latest, 5, (some .int), yX6_latest, 6, 1069, 7) := ma_mtk_of rfl (by decide +kernel) (by decide +kernel)
set_option maxRecDepth 100000 in
theorem mk_176 : ma_mtk (6, cX6_boughFor, 2, (some .int), yX6_boughFor, 7, 1073, 7) := ma_mtk_of rfl (by decide +kernel) (by decide +kernel)
set_option maxRecDepth 100000 in
theorem mk_177 : ma_mtk (6, cX6_lastBy, 9, (some .int), yX6_lastBy, 6, 1077, 7) := ma_mtk_of rfl (by decide +kernel) (by decide +kernel)
set_option maxRecDepth 100000 in
theorem mk_178 : ma_mtk (6, cX6_kindFor, 2, (some .int), yX6_kindFor, 7, 1081, 7) := ma_mtk_of rfl (by decide +kernel) (by decide +kernel)
set_option maxRecDepth 100000 in
theorem mk_179 : ma_mtk (6, cX6_holdFor, 7, (some .int), yX6_holdFor, 6, 1085, 7) := ma_mtk_of rfl (by decide +kernel) (by decide +kernel)
set_option maxRecDepth 100000 in
theorem mk_180 : ma_mtk (6, cX6_isShort, 1, (some .boolean), yX6_isShort, 1, 1088, 7) := ma_mtk_of rfl (by decide +kernel) (by decide +kernel)
set_option maxRecDepth 100000 in
theorem mk_181 : ma_mtk (6, cX6_hangsBehind, 6, (some .boolean), yX6_hangsBehind, 5, 1093, 7) := ma_mtk_of rfl (by decide +kernel) (by decide +kernel)
set_option maxRecDepth 100000 in
theorem mk_182 : ma_mtk (6, cX6_tiedFor, 7, (some .int), yX6_tiedFor, 6, 1097, 7) := ma_mtk_of rfl (by decide +kernel) (by decide +kernel)
set_option maxRecDepth 100000 in
theorem mk_183 : ma_mtk (6, cX6_fits, 10, (some .int), yX6_fits, 6, 1101, 7) := ma_mtk_of rfl (by decide +kernel) (by decide +kernel)
set_option maxRecDepth 100000 in
theorem mk_184 : ma_mtk (6, cX6_isSheet, 1, (some .boolean), yX6_isSheet, 1, 1104, 7) := ma_mtk_of rfl (by decide +kernel) (by decide +kernel)
set_option maxRecDepth 100000 in
theorem mk_185 : ma_mtk (6, cX6_isTold, 6, (some .boolean), yX6_isTold, 5, 1108, 7) := ma_mtk_of rfl (by decide +kernel) (by decide +kernel)
set_option maxRecDepth 100000 in
theorem mk_186 : ma_mtk (6, cX6_odds, 9, (some .long), yX6_odds, 1, 1112, 7) := ma_mtk_of rfl (by decide +kernel) (by decide +kernel)
set_option maxRecDepth 100000 in
theorem mk_187 : ma_mtk (6, cX6_product, 4, (some .long), yX6_product, 0, 1116, 7) := ma_mtk_of rfl (by decide +kernel) (by decide +kernel)
set_option maxRecDepth 100000 in
theorem mk_188 : ma_mtk (6, cX6_partOf, 11, (some .long), yX6_partOf, 0, 1120, 7) := ma_mtk_of rfl (by decide +kernel) (by decide +kernel)
set_option maxRecDepth 100000 in
theorem mk_189 : ma_mtk (6, cX6_hope, 3, (some .long), yX6_hope, 1, 1124, 7) := ma_mtk_of rfl (by decide +kernel) (by decide +kernel)
set_option maxRecDepth 100000 in
theorem mk_190 : ma_mtk (6, cX6_prove, 5, (some .int), yX6_prove, 5, 1128, 7) := ma_mtk_of rfl (by decide +kernel) (by decide +kernel)
set_option maxRecDepth 100000 in
theorem mk_191 : ma_mtk (6, cX6_row, 3, (some .int), yX6_row, 2, 1133, 7) := ma_mtk_of rfl (by decide +kernel) (by decide +kernel)
set_option maxRecDepth 100000 in
theorem mk_192 : ma_mtk (6, cX6_isRow, 3, (some .boolean), yX6_isRow, 1, 1137, 7) := ma_mtk_of rfl (by decide +kernel) (by decide +kernel)
set_option maxRecDepth 100000 in
theorem mk_193 : ma_mtk (6, cX6_alterRow, 5, (some .int), yX6_alterRow, 2, 1142, 7) := ma_mtk_of rfl (by decide +kernel) (by decide +kernel)
set_option maxRecDepth 100000 in
theorem mk_194 : ma_mtk (6, cX6_judge, 5, (some .int), yX6_judge, 5, 1146, 7) := ma_mtk_of rfl (by decide +kernel) (by decide +kernel)
set_option maxRecDepth 100000 in
theorem mk_195 : ma_mtk (6, cX6_sheet, 5, (some .int), yX6_sheet, 2, 1150, 7) := ma_mtk_of rfl (by decide +kernel) (by decide +kernel)
set_option maxRecDepth 100000 in
theorem mk_196 : ma_mtk (6, cX6_put, 4, (some .int), yX6_put, 2, 1154, 7) := ma_mtk_of rfl (by decide +kernel) (by decide +kernel)
set_option maxRecDepth 100000 in
theorem mk_197 : ma_mtk (6, cX6_item, 4, (some .int), yX6_item, 2, 1158, 7) := ma_mtk_of rfl (by decide +kernel) (by decide +kernel)
set_option maxRecDepth 100000 in
theorem mk_198 : ma_mtk (6, cX6_lacks, 3, (some .int), yX6_lacks, 0, 1162, 7) := ma_mtk_of rfl (by decide +kernel) (by decide +kernel)
set_option maxRecDepth 100000 in
theorem mk_199 : ma_mtk (6, cX6_minds, 6, (some .int), yX6_minds, 2, 1166, 7) := ma_mtk_of rfl (by decide +kernel) (by decide +kernel)
set_option maxRecDepth 100000 in
theorem mk_200 : ma_mtk (6, cX6_shelf, 5, (some .int), yX6_shelf, 2, 1170, 7) := ma_mtk_of rfl (by decide +kernel) (by decide +kernel)
set_option maxRecDepth 100000 in
theorem mk_201 : ma_mtk (6, cX6_isShelf, 1, (some .boolean), yX6_isShelf, 1, 1173, 7) := ma_mtk_of rfl (by decide +kernel) (by decide +kernel)
set_option maxRecDepth 100000 in
theorem mk_202 : ma_mtk (6, cX6_taken, 4, (some .int), yX6_taken, 2, 1177, 7) := ma_mtk_of rfl (by decide +kernel) (by decide +kernel)
set_option maxRecDepth 100000 in
theorem mk_203 : ma_mtk (6, cX6_heldOn, 2, (some .int), yX6_heldOn, 1, 1182, 7) := ma_mtk_of rfl (by decide +kernel) (by decide +kernel)
set_option maxRecDepth 100000 in
theorem mk_204 : ma_mtk (6, cX6_isUnder, 2, (some .boolean), yX6_isUnder, 0, 1185, 7) := ma_mtk_of rfl (by decide +kernel) (by decide +kernel)
set_option maxRecDepth 100000 in
theorem mk_205 : ma_mtk (6, cX6_act, 5, (some .int), yX6_act, 8, 1189, 7) := ma_mtk_of rfl (by decide +kernel) (by decide +kernel)
set_option maxRecDepth 100000 in
theorem mk_206 : ma_mtk (6, cX6_turns, 2, (some .int), yX6_turns, 3, 1193, 7) := ma_mtk_of rfl (by decide +kernel) (by decide +kernel)
set_option maxRecDepth 100000 in
theorem mk_207 : ma_mtk (6, cX6_turnsOfYellow, 2, (some .int), yX6_turnsOfYellow, 2, 1197, 7) := ma_mtk_of rfl (by decide +kernel) (by decide +kernel)
set_option maxRecDepth 100000 in
theorem mk_208 : ma_mtk (6, cX6_runs, 2, none, yX6_runs, 0, 1201, 7) := ma_mtk_of rfl (by decide +kernel) (by decide +kernel)
set_option maxRecDepth 100000 in
theorem mk_209 : ma_mtk (6, cX6_turnsPlain, 2, (some .int), yX6_turnsPlain, 1, 1205, 7) := ma_mtk_of rfl (by decide +kernel) (by decide +kernel)
set_option maxRecDepth 100000 in
theorem mk_210 : ma_mtk (6, cX6_names, 3, (some .int), yX6_names, 5, 1209, 7) := ma_mtk_of rfl (by decide +kernel) (by decide +kernel)
set_option maxRecDepth 100000 in
theorem mk_211 : ma_mtk (6, cX6_namesPlain, 2, (some .int), yX6_namesPlain, 4, 1213, 7) := ma_mtk_of rfl (by decide +kernel) (by decide +kernel)
set_option maxRecDepth 100000 in
theorem mk_212 : ma_mtk (6, cX6_parts, 3, (some .int), yX6_parts, 4, 1217, 7) := ma_mtk_of rfl (by decide +kernel) (by decide +kernel)
set_option maxRecDepth 100000 in
theorem mk_213 : ma_mtk (6, cX6_partsPlain, 2, (some .int), yX6_partsPlain, 1, 1221, 7) := ma_mtk_of rfl (by decide +kernel) (by decide +kernel)
set_option maxRecDepth 100000 in
theorem mk_214 : ma_mtk (6, cX6_lands, 3, (some .int), yX6_lands, 7, 1225, 7) := ma_mtk_of rfl (by decide +kernel) (by decide +kernel)
set_option maxRecDepth 100000 in
theorem mk_215 : ma_mtk (6, cX6_landsPlain, 2, (some .int), yX6_landsPlain, 6, 1229, 7) := ma_mtk_of rfl (by decide +kernel) (by decide +kernel)
set_option maxRecDepth 100000 in
theorem mk_216 : ma_mtk (6, cX6_trace, 2, (some .int), yX6_trace, 1, 1233, 7) := ma_mtk_of rfl (by decide +kernel) (by decide +kernel)
set_option maxRecDepth 100000 in
theorem mk_217 : ma_mtk (6, cX6_many, 2, (some .int), yX6_many, 3, 1237, 7) := ma_mtk_of rfl (by decide +kernel) (by decide +kernel)
set_option maxRecDepth 100000 in
theorem mk_218 : ma_mtk (6, cX6_boughsInUse, 3, (some .int), yX6_boughsInUse, 2, 1241, 7) := ma_mtk_of rfl (by decide +kernel) (by decide +kernel)
set_option maxRecDepth 100000 in
theorem mk_219 : ma_mtk (6, cX6_keep, 2, (some .int), yX6_keep, 0, 1245, 7) := ma_mtk_of rfl (by decide +kernel) (by decide +kernel)
set_option maxRecDepth 100000 in
theorem mk_220 : ma_mtk (6, cX6_again, 2, (some .int), yX6_again, 0, 1249, 7) := ma_mtk_of rfl (by decide +kernel) (by decide +kernel)
set_option maxRecDepth 100000 in
theorem mk_221 : ma_mtk (10, cJ0_length_8abf5, 1, (some .int), yJ0_length_8abf5, 1, 254, 8) := ma_mtk_of rfl (by decide +kernel) (by decide +kernel)
set_option maxRecDepth 100000 in
theorem mk_222 : ma_mtk (10, cJ0_coder_7d493, 1, (some .byte), yJ0_coder_7d493, 0, 258, 8) := ma_mtk_of rfl (by decide +kernel) (by decide +kernel)
set_option maxRecDepth 100000 in
theorem mk_223 : ma_mtk (10, cJ0_charAt_5068e, 2, (some .char), yJ0_charAt_5068e, 4, 264, 8) := ma_mtk_of rfl (by decide +kernel) (by decide +kernel)
set_option maxRecDepth 100000 in
theorem mk_224 : ma_mtk (10, cJ0_isLatin1_aae02, 1, (some .boolean), yJ0_isLatin1_aae02, 0, 268, 8) := ma_mtk_of rfl (by decide +kernel) (by decide +kernel)
set_option maxRecDepth 100000 in
theorem mk_225 : ma_mtk (10, cJ0_checkIndex_df160, 2, none, yJ0_checkIndex_df160, 1, 274, 8) := ma_mtk_of rfl (by decide +kernel) (by decide +kernel)
set_option maxRecDepth 100000 in
theorem mk_226 : ma_mtk (11, cJ1_charAt_3b067, 2, (some .char), yJ1_charAt_3b067, 2, 271, 9) := ma_mtk_of rfl (by decide +kernel) (by decide +kernel)
set_option maxRecDepth 100000 in
theorem mk_227 : ma_mtk (12, cJ2_charAt_3b067, 2, (some .char), yJ2_charAt_3b067, 3, 282, 11) := ma_mtk_of rfl (by decide +kernel) (by decide +kernel)
set_option maxRecDepth 100000 in
theorem mk_228 : ma_mtk (12, cJ2_checkIndex_2214a, 2, none, yJ2_checkIndex_2214a, 2, 285, 11) := ma_mtk_of rfl (by decide +kernel) (by decide +kernel)
set_option maxRecDepth 100000 in
theorem mk_229 : ma_mtk (12, cJ2_length_9d52b, 1, (some .int), yJ2_length_9d52b, 0, 288, 11) := ma_mtk_of rfl (by decide +kernel) (by decide +kernel)
set_option maxRecDepth 100000 in
theorem mk_230 : ma_mtk (12, cJ2_getChar_3b067, 2, (some .char), yJ2_getChar_3b067, 1, 292, 11) := ma_mtk_of rfl (by decide +kernel) (by decide +kernel)
set_option maxRecDepth 100000 in
theorem mk_231 : ma_mtk (13, cJ3_checkIndex_8e157, 3, (some .int), yJ3_checkIndex_8e157, 0, 279, 10) := ma_mtk_of rfl (by decide +kernel) (by decide +kernel)
set_option maxRecDepth 100000 in
theorem mk_232 : ma_mtk (16, cJ6_bitCount_0f7a4, 1, (some .int), yJ6_bitCount_0f7a4, 0, 403, 13) := ma_mtk_of rfl (by decide +kernel) (by decide +kernel)
theorem mk_c0 : ∀ t ∈ ma_mt0, t.1 = 7 ∨ ma_mtk t := (List.forall_mem_cons.mpr ⟨(Or.inr mk_0), (List.forall_mem_cons.mpr ⟨(Or.inr mk_1), (List.forall_mem_cons.mpr ⟨(Or.inr mk_2), (List.forall_mem_cons.mpr ⟨(Or.inr mk_3), (List.forall_mem_cons.mpr ⟨(Or.inr mk_4), (List.forall_mem_cons.mpr ⟨(Or.inr mk_5), (List.forall_mem_cons.mpr ⟨(Or.inr mk_6), (List.forall_mem_cons.mpr ⟨(Or.inr mk_7), (List.forall_mem_cons.mpr ⟨(Or.inr mk_8), (List.forall_mem_cons.mpr ⟨(Or.inr mk_9), (List.forall_mem_cons.mpr ⟨(Or.inr mk_10), (List.forall_mem_cons.mpr ⟨(Or.inr mk_11), (List.forall_mem_cons.mpr ⟨(Or.inr mk_12), (List.forall_mem_cons.mpr ⟨(Or.inr mk_13), (List.forall_mem_cons.mpr ⟨(Or.inr mk_14), (List.forall_mem_cons.mpr ⟨(Or.inr mk_15), (List.forall_mem_cons.mpr ⟨(Or.inr mk_16), (List.forall_mem_cons.mpr ⟨(Or.inr mk_17), (List.forall_mem_cons.mpr ⟨(Or.inr mk_18), (List.forall_mem_cons.mpr ⟨(Or.inr mk_19), (List.forall_mem_cons.mpr ⟨(Or.inr mk_20), (List.forall_mem_cons.mpr ⟨(Or.inr mk_21), (List.forall_mem_cons.mpr ⟨(Or.inr mk_22), (List.forall_mem_cons.mpr ⟨(Or.inr mk_23), (List.forall_mem_cons.mpr ⟨(Or.inr mk_24), (List.forall_mem_cons.mpr ⟨(Or.inr mk_25), (List.forall_mem_cons.mpr ⟨(Or.inr mk_26), (List.forall_mem_cons.mpr ⟨(Or.inr mk_27), (List.forall_mem_cons.mpr ⟨(Or.inr mk_28), (List.forall_mem_cons.mpr ⟨(Or.inr mk_29), (fun _ h => absurd h List.not_mem_nil)⟩)⟩)⟩)⟩)⟩)⟩)⟩)⟩)⟩)⟩)⟩)⟩)⟩)⟩)⟩)⟩)⟩)⟩)⟩)⟩)⟩)⟩)⟩)⟩)⟩)⟩)⟩)⟩)⟩)⟩)
theorem mk_c1 : ∀ t ∈ ma_mt1, t.1 = 7 ∨ ma_mtk t := (List.forall_mem_cons.mpr ⟨(Or.inr mk_30), (List.forall_mem_cons.mpr ⟨(Or.inr mk_31), (List.forall_mem_cons.mpr ⟨(Or.inr mk_32), (List.forall_mem_cons.mpr ⟨(Or.inr mk_33), (List.forall_mem_cons.mpr ⟨(Or.inr mk_34), (List.forall_mem_cons.mpr ⟨(Or.inr mk_35), (List.forall_mem_cons.mpr ⟨(Or.inr mk_36), (List.forall_mem_cons.mpr ⟨(Or.inr mk_37), (List.forall_mem_cons.mpr ⟨(Or.inr mk_38), (List.forall_mem_cons.mpr ⟨(Or.inr mk_39), (List.forall_mem_cons.mpr ⟨(Or.inr mk_40), (List.forall_mem_cons.mpr ⟨(Or.inr mk_41), (List.forall_mem_cons.mpr ⟨(Or.inr mk_42), (List.forall_mem_cons.mpr ⟨(Or.inr mk_43), (List.forall_mem_cons.mpr ⟨(Or.inr mk_44), (List.forall_mem_cons.mpr ⟨(Or.inr mk_45), (List.forall_mem_cons.mpr ⟨(Or.inr mk_46), (List.forall_mem_cons.mpr ⟨(Or.inr mk_47), (List.forall_mem_cons.mpr ⟨(Or.inr mk_48), (List.forall_mem_cons.mpr ⟨(Or.inr mk_49), (List.forall_mem_cons.mpr ⟨(Or.inr mk_50), (List.forall_mem_cons.mpr ⟨(Or.inr mk_51), (List.forall_mem_cons.mpr ⟨(Or.inr mk_52), (List.forall_mem_cons.mpr ⟨(Or.inr mk_53), (List.forall_mem_cons.mpr ⟨(Or.inr mk_54), (List.forall_mem_cons.mpr ⟨(Or.inr mk_55), (List.forall_mem_cons.mpr ⟨(Or.inr mk_56), (List.forall_mem_cons.mpr ⟨(Or.inr mk_57), (List.forall_mem_cons.mpr ⟨(Or.inr mk_58), (List.forall_mem_cons.mpr ⟨(Or.inr mk_59), (fun _ h => absurd h List.not_mem_nil)⟩)⟩)⟩)⟩)⟩)⟩)⟩)⟩)⟩)⟩)⟩)⟩)⟩)⟩)⟩)⟩)⟩)⟩)⟩)⟩)⟩)⟩)⟩)⟩)⟩)⟩)⟩)⟩)⟩)⟩)
theorem mk_c2 : ∀ t ∈ ma_mt2, t.1 = 7 ∨ ma_mtk t := (List.forall_mem_cons.mpr ⟨(Or.inr mk_60), (List.forall_mem_cons.mpr ⟨(Or.inr mk_61), (List.forall_mem_cons.mpr ⟨(Or.inr mk_62), (List.forall_mem_cons.mpr ⟨(Or.inr mk_63), (List.forall_mem_cons.mpr ⟨(Or.inr mk_64), (List.forall_mem_cons.mpr ⟨(Or.inr mk_65), (List.forall_mem_cons.mpr ⟨(Or.inr mk_66), (List.forall_mem_cons.mpr ⟨(Or.inr mk_67), (List.forall_mem_cons.mpr ⟨(Or.inr mk_68), (List.forall_mem_cons.mpr ⟨(Or.inr mk_69), (List.forall_mem_cons.mpr ⟨(Or.inr mk_70), (List.forall_mem_cons.mpr ⟨(Or.inr mk_71), (List.forall_mem_cons.mpr ⟨(Or.inr mk_72), (List.forall_mem_cons.mpr ⟨(Or.inr mk_73), (List.forall_mem_cons.mpr ⟨(Or.inr mk_74), (List.forall_mem_cons.mpr ⟨(Or.inr mk_75), (List.forall_mem_cons.mpr ⟨(Or.inr mk_76), (List.forall_mem_cons.mpr ⟨(Or.inr mk_77), (List.forall_mem_cons.mpr ⟨(Or.inr mk_78), (List.forall_mem_cons.mpr ⟨(Or.inr mk_79), (List.forall_mem_cons.mpr ⟨(Or.inr mk_80), (List.forall_mem_cons.mpr ⟨(Or.inr mk_81), (List.forall_mem_cons.mpr ⟨(Or.inr mk_82), (List.forall_mem_cons.mpr ⟨(Or.inr mk_83), (List.forall_mem_cons.mpr ⟨(Or.inr mk_84), (List.forall_mem_cons.mpr ⟨(Or.inr mk_85), (List.forall_mem_cons.mpr ⟨(Or.inr mk_86), (List.forall_mem_cons.mpr ⟨(Or.inr mk_87), (List.forall_mem_cons.mpr ⟨(Or.inr mk_88), (List.forall_mem_cons.mpr ⟨(Or.inr mk_89), (fun _ h => absurd h List.not_mem_nil)⟩)⟩)⟩)⟩)⟩)⟩)⟩)⟩)⟩)⟩)⟩)⟩)⟩)⟩)⟩)⟩)⟩)⟩)⟩)⟩)⟩)⟩)⟩)⟩)⟩)⟩)⟩)⟩)⟩)⟩)
theorem mk_c3 : ∀ t ∈ ma_mt3, t.1 = 7 ∨ ma_mtk t := (List.forall_mem_cons.mpr ⟨(Or.inr mk_90), (List.forall_mem_cons.mpr ⟨(Or.inr mk_91), (List.forall_mem_cons.mpr ⟨(Or.inr mk_92), (List.forall_mem_cons.mpr ⟨(Or.inr mk_93), (List.forall_mem_cons.mpr ⟨(Or.inr mk_94), (List.forall_mem_cons.mpr ⟨(Or.inr mk_95), (List.forall_mem_cons.mpr ⟨(Or.inr mk_96), (List.forall_mem_cons.mpr ⟨(Or.inr mk_97), (List.forall_mem_cons.mpr ⟨(Or.inr mk_98), (List.forall_mem_cons.mpr ⟨(Or.inr mk_99), (List.forall_mem_cons.mpr ⟨(Or.inr mk_100), (List.forall_mem_cons.mpr ⟨(Or.inr mk_101), (List.forall_mem_cons.mpr ⟨(Or.inr mk_102), (List.forall_mem_cons.mpr ⟨(Or.inr mk_103), (List.forall_mem_cons.mpr ⟨(Or.inr mk_104), (List.forall_mem_cons.mpr ⟨(Or.inr mk_105), (List.forall_mem_cons.mpr ⟨(Or.inr mk_106), (List.forall_mem_cons.mpr ⟨(Or.inr mk_107), (List.forall_mem_cons.mpr ⟨(Or.inr mk_108), (List.forall_mem_cons.mpr ⟨(Or.inr mk_109), (List.forall_mem_cons.mpr ⟨(Or.inr mk_110), (List.forall_mem_cons.mpr ⟨(Or.inr mk_111), (List.forall_mem_cons.mpr ⟨(Or.inr mk_112), (List.forall_mem_cons.mpr ⟨(Or.inr mk_113), (List.forall_mem_cons.mpr ⟨(Or.inr mk_114), (List.forall_mem_cons.mpr ⟨(Or.inr mk_115), (List.forall_mem_cons.mpr ⟨(Or.inr mk_116), (List.forall_mem_cons.mpr ⟨(Or.inr mk_117), (List.forall_mem_cons.mpr ⟨(Or.inr mk_118), (List.forall_mem_cons.mpr ⟨(Or.inr mk_119), (fun _ h => absurd h List.not_mem_nil)⟩)⟩)⟩)⟩)⟩)⟩)⟩)⟩)⟩)⟩)⟩)⟩)⟩)⟩)⟩)⟩)⟩)⟩)⟩)⟩)⟩)⟩)⟩)⟩)⟩)⟩)⟩)⟩)⟩)⟩)
theorem mk_c4 : ∀ t ∈ ma_mt4, t.1 = 7 ∨ ma_mtk t := (List.forall_mem_cons.mpr ⟨(Or.inr mk_120), (List.forall_mem_cons.mpr ⟨(Or.inr mk_121), (List.forall_mem_cons.mpr ⟨(Or.inr mk_122), (List.forall_mem_cons.mpr ⟨(Or.inr mk_123), (List.forall_mem_cons.mpr ⟨(Or.inr mk_124), (List.forall_mem_cons.mpr ⟨(Or.inr mk_125), (List.forall_mem_cons.mpr ⟨(Or.inr mk_126), (List.forall_mem_cons.mpr ⟨(Or.inr mk_127), (List.forall_mem_cons.mpr ⟨(Or.inr mk_128), (List.forall_mem_cons.mpr ⟨(Or.inr mk_129), (List.forall_mem_cons.mpr ⟨(Or.inr mk_130), (List.forall_mem_cons.mpr ⟨(Or.inr mk_131), (List.forall_mem_cons.mpr ⟨(Or.inr mk_132), (List.forall_mem_cons.mpr ⟨(Or.inr mk_133), (List.forall_mem_cons.mpr ⟨(Or.inr mk_134), (List.forall_mem_cons.mpr ⟨(Or.inr mk_135), (List.forall_mem_cons.mpr ⟨(Or.inr mk_136), (List.forall_mem_cons.mpr ⟨(Or.inr mk_137), (List.forall_mem_cons.mpr ⟨(Or.inr mk_138), (List.forall_mem_cons.mpr ⟨(Or.inr mk_139), (List.forall_mem_cons.mpr ⟨(Or.inr mk_140), (List.forall_mem_cons.mpr ⟨(Or.inr mk_141), (List.forall_mem_cons.mpr ⟨(Or.inr mk_142), (List.forall_mem_cons.mpr ⟨(Or.inr mk_143), (List.forall_mem_cons.mpr ⟨(Or.inr mk_144), (List.forall_mem_cons.mpr ⟨(Or.inr mk_145), (List.forall_mem_cons.mpr ⟨(Or.inr mk_146), (List.forall_mem_cons.mpr ⟨(Or.inr mk_147), (List.forall_mem_cons.mpr ⟨(Or.inr mk_148), (List.forall_mem_cons.mpr ⟨(Or.inr mk_149), (fun _ h => absurd h List.not_mem_nil)⟩)⟩)⟩)⟩)⟩)⟩)⟩)⟩)⟩)⟩)⟩)⟩)⟩)⟩)⟩)⟩)⟩)⟩)⟩)⟩)⟩)⟩)⟩)⟩)⟩)⟩)⟩)⟩)⟩)⟩)
theorem mk_c5 : ∀ t ∈ ma_mt5, t.1 = 7 ∨ ma_mtk t := (List.forall_mem_cons.mpr ⟨(Or.inr mk_150), (List.forall_mem_cons.mpr ⟨(Or.inr mk_151), (List.forall_mem_cons.mpr ⟨(Or.inr mk_152), (List.forall_mem_cons.mpr ⟨(Or.inr mk_153), (List.forall_mem_cons.mpr ⟨(Or.inr mk_154), (List.forall_mem_cons.mpr ⟨(Or.inr mk_155), (List.forall_mem_cons.mpr ⟨(Or.inr mk_156), (List.forall_mem_cons.mpr ⟨(Or.inr mk_157), (List.forall_mem_cons.mpr ⟨(Or.inr mk_158), (List.forall_mem_cons.mpr ⟨(Or.inr mk_159), (List.forall_mem_cons.mpr ⟨(Or.inr mk_160), (List.forall_mem_cons.mpr ⟨(Or.inr mk_161), (List.forall_mem_cons.mpr ⟨(Or.inr mk_162), (List.forall_mem_cons.mpr ⟨(Or.inr mk_163), (List.forall_mem_cons.mpr ⟨(Or.inr mk_164), (List.forall_mem_cons.mpr ⟨(Or.inr mk_165), (List.forall_mem_cons.mpr ⟨(Or.inr mk_166), (List.forall_mem_cons.mpr ⟨(Or.inr mk_167), (List.forall_mem_cons.mpr ⟨(Or.inr mk_168), (List.forall_mem_cons.mpr ⟨(Or.inr mk_169), (List.forall_mem_cons.mpr ⟨(Or.inr mk_170), (List.forall_mem_cons.mpr ⟨(Or.inr mk_171), (List.forall_mem_cons.mpr ⟨(Or.inr mk_172), (List.forall_mem_cons.mpr ⟨(Or.inr mk_173), (List.forall_mem_cons.mpr ⟨(Or.inr mk_174), (List.forall_mem_cons.mpr ⟨(Or.inr mk_175), (List.forall_mem_cons.mpr ⟨(Or.inr mk_176), (List.forall_mem_cons.mpr ⟨(Or.inr mk_177), (List.forall_mem_cons.mpr ⟨(Or.inr mk_178), (List.forall_mem_cons.mpr ⟨(Or.inr mk_179), (fun _ h => absurd h List.not_mem_nil)⟩)⟩)⟩)⟩)⟩)⟩)⟩)⟩)⟩)⟩)⟩)⟩)⟩)⟩)⟩)⟩)⟩)⟩)⟩)⟩)⟩)⟩)⟩)⟩)⟩)⟩)⟩)⟩)⟩)⟩)
theorem mk_c6 : ∀ t ∈ ma_mt6, t.1 = 7 ∨ ma_mtk t := (List.forall_mem_cons.mpr ⟨(Or.inr mk_180), (List.forall_mem_cons.mpr ⟨(Or.inr mk_181), (List.forall_mem_cons.mpr ⟨(Or.inr mk_182), (List.forall_mem_cons.mpr ⟨(Or.inr mk_183), (List.forall_mem_cons.mpr ⟨(Or.inr mk_184), (List.forall_mem_cons.mpr ⟨(Or.inr mk_185), (List.forall_mem_cons.mpr ⟨(Or.inr mk_186), (List.forall_mem_cons.mpr ⟨(Or.inr mk_187), (List.forall_mem_cons.mpr ⟨(Or.inr mk_188), (List.forall_mem_cons.mpr ⟨(Or.inr mk_189), (List.forall_mem_cons.mpr ⟨(Or.inr mk_190), (List.forall_mem_cons.mpr ⟨(Or.inr mk_191), (List.forall_mem_cons.mpr ⟨(Or.inr mk_192), (List.forall_mem_cons.mpr ⟨(Or.inr mk_193), (List.forall_mem_cons.mpr ⟨(Or.inr mk_194), (List.forall_mem_cons.mpr ⟨(Or.inr mk_195), (List.forall_mem_cons.mpr ⟨(Or.inr mk_196), (List.forall_mem_cons.mpr ⟨(Or.inr mk_197), (List.forall_mem_cons.mpr ⟨(Or.inr mk_198), (List.forall_mem_cons.mpr ⟨(Or.inr mk_199), (List.forall_mem_cons.mpr ⟨(Or.inr mk_200), (List.forall_mem_cons.mpr ⟨(Or.inr mk_201), (List.forall_mem_cons.mpr ⟨(Or.inr mk_202), (List.forall_mem_cons.mpr ⟨(Or.inr mk_203), (List.forall_mem_cons.mpr ⟨(Or.inr mk_204), (List.forall_mem_cons.mpr ⟨(Or.inr mk_205), (List.forall_mem_cons.mpr ⟨(Or.inr mk_206), (List.forall_mem_cons.mpr ⟨(Or.inr mk_207), (List.forall_mem_cons.mpr ⟨(Or.inr mk_208), (List.forall_mem_cons.mpr ⟨(Or.inr mk_209), (fun _ h => absurd h List.not_mem_nil)⟩)⟩)⟩)⟩)⟩)⟩)⟩)⟩)⟩)⟩)⟩)⟩)⟩)⟩)⟩)⟩)⟩)⟩)⟩)⟩)⟩)⟩)⟩)⟩)⟩)⟩)⟩)⟩)⟩)⟩)
theorem mk_c7 : ∀ t ∈ ma_mt7, t.1 = 7 ∨ ma_mtk t := (List.forall_mem_cons.mpr ⟨(Or.inr mk_210), (List.forall_mem_cons.mpr ⟨(Or.inr mk_211), (List.forall_mem_cons.mpr ⟨(Or.inr mk_212), (List.forall_mem_cons.mpr ⟨(Or.inr mk_213), (List.forall_mem_cons.mpr ⟨(Or.inr mk_214), (List.forall_mem_cons.mpr ⟨(Or.inr mk_215), (List.forall_mem_cons.mpr ⟨(Or.inr mk_216), (List.forall_mem_cons.mpr ⟨(Or.inr mk_217), (List.forall_mem_cons.mpr ⟨(Or.inr mk_218), (List.forall_mem_cons.mpr ⟨(Or.inr mk_219), (List.forall_mem_cons.mpr ⟨(Or.inr mk_220), (List.forall_mem_cons.mpr ⟨(Or.inr mk_221), (List.forall_mem_cons.mpr ⟨(Or.inr mk_222), (List.forall_mem_cons.mpr ⟨(Or.inr mk_223), (List.forall_mem_cons.mpr ⟨(Or.inr mk_224), (List.forall_mem_cons.mpr ⟨(Or.inr mk_225), (List.forall_mem_cons.mpr ⟨(Or.inr mk_226), (List.forall_mem_cons.mpr ⟨(Or.inr mk_227), (List.forall_mem_cons.mpr ⟨(Or.inr mk_228), (List.forall_mem_cons.mpr ⟨(Or.inr mk_229), (List.forall_mem_cons.mpr ⟨(Or.inr mk_230), (List.forall_mem_cons.mpr ⟨(Or.inr mk_231), (List.forall_mem_cons.mpr ⟨(Or.inr mk_232), (List.forall_mem_cons.mpr ⟨(Or.inl rfl), (fun _ h => absurd h List.not_mem_nil)⟩)⟩)⟩)⟩)⟩)⟩)⟩)⟩)⟩)⟩)⟩)⟩)⟩)⟩)⟩)⟩)⟩)⟩)⟩)⟩)⟩)⟩)⟩)⟩)
theorem ma_mtk_get {m : Nat} {t : ma_M} (h : ma_mts m = some t) : t.1 = 7 ∨ ma_mtk t := by
  unfold ma_mts at h
  split at h
  · exact mk_c0 t (List.mem_of_getElem? h)
  · exact mk_c1 t (List.mem_of_getElem? h)
  · exact mk_c2 t (List.mem_of_getElem? h)
  · exact mk_c3 t (List.mem_of_getElem? h)
  · exact mk_c4 t (List.mem_of_getElem? h)
  · exact mk_c5 t (List.mem_of_getElem? h)
  · exact mk_c6 t (List.mem_of_getElem? h)
  · exact mk_c7 t (List.mem_of_getElem? h)
  · cases h
end
section
/-! ===== the words of the calls; every step of the small machine is one of the great one ===== -/
def ma_par (y : MethodName) (n : Nat) : Bool := decide ((parseMethodDescriptor y.desc).map (fun d => d.parameters.length) = some n)
def ma_sl (k : Nat) (y : MethodName) : Bool := if k < 2000 then ma_wd k (.selects y.cls y y) else match lw_privs[k - 2000]? with
  | some z => decide (z.1 = y)
  | none => false
theorem ma_sl_in {k : Nat} {y : MethodName} (h : ma_sl k y = true) : Jvm.Cond.selects y.cls y y ∈ ma_big := by
  unfold ma_sl at h
  split at h
  · exact ma_wd_in h
  · split at h
    · next z hz =>
      rw [decide_eq_true_eq] at h
      subst h
      exact List.mem_filter.mpr ⟨List.mem_append_left _ (List.mem_map.mpr ⟨z, List.mem_of_getElem? hz, rfl⟩), rfl⟩
    · cases h
def ma_mok1 (own : Nat) (q : Nat × Nat × Nat × Nat × Nat × Nat × Nat × Nat) (t : ma_M) : Bool := match q.2.1 with
  | 0 => ma_wd q.2.2.2.2.2.1 (.methodLink (ma_on own) q.1 t.2.2.2.2.1) && ma_wd q.2.2.2.2.2.2.1 (.static t.2.2.2.2.1) && ma_par t.2.2.2.2.1 q.2.2.2.2.1
  | 1 => ma_wd q.2.2.2.2.2.1 (.methodLink (ma_on own) q.1 t.2.2.2.2.1) && ma_wd q.2.2.2.2.2.2.1 (.instanceMethod t.2.2.2.2.1) && ma_sl q.2.2.2.2.2.2.2 t.2.2.2.2.1 && decide (t.2.2.2.2.1.cls = ma_rx q.2.2.1) && decide (q.2.2.1 < 7) && decide (1 ≤ q.2.2.2.2.1) && ma_par t.2.2.2.2.1 (q.2.2.2.2.1 - 1)
  | 2 => ma_wd q.2.2.2.2.2.1 (.methodLink (ma_on own) q.1 t.2.2.2.2.1) && ma_wd q.2.2.2.2.2.2.1 (.instanceMethod t.2.2.2.2.1) && ma_sl q.2.2.2.2.2.2.2 t.2.2.2.2.1 && decide (t.2.2.2.2.1.cls = "java/lang/String") && decide (1 ≤ q.2.2.2.2.1) && ma_par t.2.2.2.2.1 (q.2.2.2.2.1 - 1)
  | 3 => ma_wd q.2.2.2.2.2.1 (.methodLink (ma_on own) q.1 t.2.2.2.2.1) && ma_wd q.2.2.2.2.2.2.1 (.instanceMethod t.2.2.2.2.1) && decide (t.2.2.2.2.1.name = "<init>") && decide (t.2.2.2.1 = none) && decide (1 ≤ q.2.2.2.2.1) && ma_par t.2.2.2.2.1 (q.2.2.2.2.1 - 1)
  | 4 => decide (Jvm.Cond.methodLinkNest (ma_on own) q.1 t.2.2.2.2.1 RX5 ∈ ma_nws) && ma_wd q.2.2.2.2.2.2.1 (.static t.2.2.2.2.1) && ma_par t.2.2.2.2.1 q.2.2.2.2.1
  | 5 => decide (Jvm.Cond.methodLinkNest (ma_on own) q.1 t.2.2.2.2.1 RX5 ∈ ma_nws) && ma_wd q.2.2.2.2.2.2.1 (.instanceMethod t.2.2.2.2.1) && decide (t.2.2.2.2.1.name = "<init>") && decide (t.2.2.2.1 = none) && decide (1 ≤ q.2.2.2.2.1) && ma_par t.2.2.2.2.1 (q.2.2.2.2.1 - 1)
  | _ => false
def ma_mok (own : Nat) (q : Nat × Nat × Nat × Nat × Nat × Nat × Nat × Nat) : Bool := match q.2.1 with
  | 6 => ma_wd q.2.2.2.2.2.1 (.methodLink (ma_on own) q.1 Lib.Math.max.name)
  | 7 => ma_wd q.2.2.2.2.2.1 (.methodLink (ma_on own) q.1 Lib.Math.min.name)
  | 8 => ma_wd q.2.2.2.2.2.1 (.methodLink (ma_on own) q.1 arraycopyName)
  | 9 => ma_wd q.2.2.2.2.2.1 (.methodLink (ma_on own) q.1 Lib.objectInit)
  | _ => match ma_mts q.2.2.2.1 with
    | some t => decide (t.1 ≠ 7) && ma_mok1 own q t
    | none => false
theorem ma_mls_ok : ∀ own, ∀ q ∈ ma_mls own, ma_mok own q = true
  | 0 => by decide +kernel
  | 1 => by decide +kernel
  | 2 => by decide +kernel
  | 3 => by decide +kernel
  | 4 => by decide +kernel
  | 5 => by decide +kernel
  | 6 => by decide +kernel
  | 7 => by decide +kernel
  | 8 => fun _ h => absurd h List.not_mem_nil
  | 9 => fun _ h => absurd h List.not_mem_nil
  | 10 => by decide +kernel
  | 11 => by decide +kernel
  | 12 => by decide +kernel
  | _ + 13 => fun _ h => absurd h List.not_mem_nil
theorem ma_cok_all : ∀ ci, ci < 7 → ma_cok ci ∧ ma_ck2 ci := by
  have hws : ∀ ci, ci < 7 → ∀ w ∈ u_ws (ma_rx ci) (ma_tx ci) (ma_nf ci), w ∈ tables_1 ∧ goodWord w = true := by
    have h : ∀ ci, ci < 7 → (u_ws (ma_rx ci) (ma_tx ci) (ma_nf ci)).all (fun w => decide (w ∈ tables_1) && goodWord w) = true := by decide +kernel
    intro ci hci w hw
    have := List.all_eq_true.mp (h ci hci) w hw
    rw [Bool.and_eq_true, decide_eq_true_eq] at this
    exact this
  have h2 : ∀ ci, ci < 7 → ∀ k, k < ma_nf ci → parseFieldDescriptor (ma_tx ci k).2.2.1 = some (ma_ty ci k) := by decide +kernel
  have h3 : ∀ ci, ci < 7 → ∀ a, a < ma_nf ci → ∀ b, b < ma_nf ci → a ≠ b → (ma_tx ci a).2.1 ≠ (ma_tx ci b).2.1 := by decide +kernel
  have h4 : ∀ ci, ci < 7 → ∀ k, k < ma_nf ci → (ma_tx ci k).1 = ma_rx ci := by decide +kernel
  have h5 : ∀ ci, ci < 7 → ∀ k, k < ma_nf ci → ma_isr (ma_ty ci k) = true ∨ ma_ty ci k = .int ∨ ma_ty ci k = .boolean := by decide +kernel
  intro ci hci
  refine ⟨⟨?_, fun w hw => ma_tb_in (hws ci hci w hw).1 (hws ci hci w hw).2, h2 ci hci, h3 ci hci, h4 ci hci⟩, h5 ci hci⟩
  match ci, hci with
  | 0, _ => rfl
  | 1, _ => rfl
  | 2, _ => rfl
  | 3, _ => rfl
  | 4, _ => rfl
  | 5, _ => rfl
  | 6, _ => rfl
end
section
/-! ===== every step of a method's instructions is one of the great machine ===== -/
theorem ma_g_some {b : Bool} {f g : ma_F} (h : ma_g b f = some (Sum.inl g)) : b = true ∧ f = g := by
  unfold ma_g at h
  split at h
  · next hb => cases h; exact ⟨hb, rfl⟩
  · cases h
theorem ma_j_some {pc : Nat} {off : Int} {F : Nat → ma_F} {b : Bool} {g : ma_F} (h : ma_j pc off F b = some (Sum.inl g)) : b = true ∧ 0 ≤ (pc : Int) + off ∧ F (ma_tgt pc off) = g := by
  unfold ma_j at h
  split at h
  · next hb =>
    cases h
    rw [Bool.and_eq_true, decide_eq_true_eq] at hb
    exact ⟨hb.1, hb.2, rfl⟩
  · cases h
theorem ma_inv_inl {own lv pc sort idx : Nat} {f : ma_F} (h : ma_inv own lv pc sort idx = some (Sum.inl f)) : ∃ q, (idx, q) ∈ ma_mls own ∧ 1 ≤ lv ∧
    ((sort = 0 ∧ q.1 = 6 ∧ f = i_lim 2 (i_bin (fun x y => if x < y then y else x) (pc + 3))) ∨ (sort = 0 ∧ q.1 = 7 ∧ f = i_lim 2 (i_bin (fun x y => if y < x then y else x) (pc + 3))) ∨ (sort = 0 ∧ q.1 = 8 ∧ f = i_lim 5 (i_cpy (pc + 3))) ∨ (sort = 2 ∧ q.1 = 9 ∧ f = i_lim 1 (i_oin (pc + 3)))) := by
  unfold ma_inv at h
  split at h
  · next q hq =>
    refine ⟨q, ma_lk_mem hq, ?_⟩
    obtain ⟨k, rest⟩ := q
    dsimp only at h ⊢
    split at h
    all_goals first
      | (obtain ⟨h1, h2⟩ := ma_g_some h; rw [decide_eq_true_eq] at h1; subst h2; refine ⟨h1, ?_⟩; simp; done)
      | cases h
  · cases h
section S16
variable {E : ma_E} {cc : ByteArray} {own lv pc : Nat} {ini : Bool}
theorem sn_inv {sort i : Nat} {ins : Instr} {f : ma_F} (hi : (sort = 0 ∧ ins = .invokestatic i) ∨ (sort = 1 ∧ ins = .invokevirtual i) ∨ (sort = 2 ∧ ins = .invokespecial i)) (h : ma_inv own lv pc sort i = some (Sum.inl f)) (hd : decode cc pc = .ok (ins, 3)) : ma_Snd E cc own lv ini pc f := by
  obtain ⟨q, hq, hlv, hk⟩ := ma_inv_inl h
  have hok := ma_mls_ok own _ hq
  obtain ⟨k, rest⟩ := q
  dsimp only at hk
  rcases hk with ⟨rfl, rfl, rfl⟩ | ⟨rfl, rfl, rfl⟩ | ⟨rfl, rfl, rfl⟩ | ⟨rfl, rfl, rfl⟩
  · rcases hi with ⟨-, rfl⟩ | ⟨h, -⟩ | ⟨h, -⟩
    · exact sn_mmx (ma_wd_in hok) (ma_wd_in ma_n0) (ma_wd_in ma_n2) (ma_wd_in ma_n3) hlv hd
    · cases h
    · cases h
  · rcases hi with ⟨-, rfl⟩ | ⟨h, -⟩ | ⟨h, -⟩
    · exact sn_mmn (ma_wd_in hok) (ma_wd_in ma_n1) (ma_wd_in ma_n2) (ma_wd_in ma_n4) hlv hd
    · cases h
    · cases h
  · rcases hi with ⟨-, rfl⟩ | ⟨h, -⟩ | ⟨h, -⟩
    · exact sn_cpy (ma_wd_in hok) (ma_wd_in ma_n5) (ma_wd_in ma_n6) (ma_wd_in ma_n7) hlv hd
    · cases h
    · cases h
  · rcases hi with ⟨h, -⟩ | ⟨h, -⟩ | ⟨-, rfl⟩
    · cases h
    · cases h
    · exact sn_oin (ma_wd_in hok) (ma_wd_in ma_n8) (ma_wd_in ma_n9) hlv hd
theorem ma_fok_at {i : Nat} {q : Nat × Nat × Nat} (h : ma_lk (ma_fls own) i = some q) : Jvm.Cond.fieldLink (ma_on own) i (ma_rx q.1) (ma_tx q.1 q.2.1).2.1 (ma_tx q.1 q.2.1).2.2.1 ∈ ma_big ∧ q.1 < 7 ∧ q.2.1 < ma_nf q.1 := by
  have h1 := ma_fls_ok own _ (ma_lk_mem h)
  unfold ma_fok at h1
  rw [Bool.and_eq_true, Bool.and_eq_true, decide_eq_true_eq, decide_eq_true_eq] at h1
  exact ⟨ma_wd_in h1.1.1, h1.1.2, h1.2⟩
theorem ma_tyc {ci k : Nat} (hc : ma_ck2 ci) (hk : k < ma_nf ci) (hr : ma_isr (ma_ty ci k) = false) : ma_ty ci k = .int ∨ ma_ty ci k = .boolean := by
  rcases hc k hk with h | h
  · rw [hr] at h; cases h
  · exact h
theorem ma_own_rx (h : own < 7) : ma_rx own = ma_on own := by
  match own, h with
  | 0, _ => rfl
  | 1, _ => rfl
  | 2, _ => rfl
  | 3, _ => rfl
  | 4, _ => rfl
  | 5, _ => rfl
  | 6, _ => rfl
set_option maxHeartbeats 4000000 in
theorem sn_all {ins : Instr} {len : Nat} {f : ma_F} (hd : decode cc pc = .ok (ins, len)) (h : ma_sem (e_xs E) (e_ll E) own lv ini pc ins len = some (Sum.inl f)) : ma_Snd E cc own lv ini pc f := by
  cases ins with
  | aload_n k =>
    obtain ⟨h1, h2⟩ := ma_g_some h
    have h3 := eq_of_beq h1
    subst h3
    subst h2
    exact sn_ald_n hd
  | aload k =>
    obtain ⟨h1, h2⟩ := ma_g_some h
    have h3 := eq_of_beq h1
    subst h3
    subst h2
    exact sn_ald hd
  | iload_n k =>
    obtain ⟨h1, h2⟩ := ma_g_some h
    have h3 := eq_of_beq h1
    subst h3
    subst h2
    exact sn_ild_n hd
  | iload k =>
    obtain ⟨h1, h2⟩ := ma_g_some h
    have h3 := eq_of_beq h1
    subst h3
    subst h2
    exact sn_ild hd
  | lload_n k =>
    obtain ⟨h1, h2⟩ := ma_g_some h
    have h3 := eq_of_beq h1
    subst h3
    subst h2
    exact sn_lld_n hd
  | lload k =>
    obtain ⟨h1, h2⟩ := ma_g_some h
    have h3 := eq_of_beq h1
    subst h3
    subst h2
    exact sn_lld hd
  | istore_n k =>
    obtain ⟨h1, h2⟩ := ma_g_some h
    have h3 := eq_of_beq h1
    subst h3
    subst h2
    exact sn_ist_n hd
  | istore k =>
    obtain ⟨h1, h2⟩ := ma_g_some h
    have h3 := eq_of_beq h1
    subst h3
    subst h2
    exact sn_ist hd
  | lstore_n k =>
    obtain ⟨h1, h2⟩ := ma_g_some h
    have h3 := eq_of_beq h1
    subst h3
    subst h2
    exact sn_lst_n hd
  | lstore k =>
    obtain ⟨h1, h2⟩ := ma_g_some h
    have h3 := eq_of_beq h1
    subst h3
    subst h2
    exact sn_lst hd
  | astore_n k =>
    obtain ⟨h1, h2⟩ := ma_g_some h
    have h3 := eq_of_beq h1
    subst h3
    subst h2
    exact sn_ast_n hd
  | astore k =>
    obtain ⟨h1, h2⟩ := ma_g_some h
    have h3 := eq_of_beq h1
    subst h3
    subst h2
    exact sn_ast hd
  | iinc k d =>
    obtain ⟨h1, h2⟩ := ma_g_some h
    have h3 := eq_of_beq h1
    subst h3
    subst h2
    exact sn_inc hd
  | iconst n =>
    obtain ⟨h1, h2⟩ := ma_g_some h
    have h3 := eq_of_beq h1
    subst h3
    subst h2
    exact sn_iconst hd
  | bipush n =>
    obtain ⟨h1, h2⟩ := ma_g_some h
    have h3 := eq_of_beq h1
    subst h3
    subst h2
    exact sn_bipush hd
  | sipush n =>
    obtain ⟨h1, h2⟩ := ma_g_some h
    have h3 := eq_of_beq h1
    subst h3
    subst h2
    exact sn_sipush hd
  | lconst n =>
    obtain ⟨h1, h2⟩ := ma_g_some h
    have h3 := eq_of_beq h1
    subst h3
    subst h2
    exact sn_lconst hd
  | ldc i =>
    change (match ma_lk (ma_ccs own) i with
      | some q => ma_g (len == 2) (i_con q.1 (pc + 2))
      | none => match ma_lk (ma_sts own) i with
        | some q => ma_g (len == 2) (i_spc (3 + 2 * q.1) (pc + 2))
        | none => none) = _ at h
    split at h
    · next q hq =>
      obtain ⟨h1, h2⟩ := ma_g_some h
      have h3 := eq_of_beq h1
      subst h3
      subst h2
      exact sn_ldc (ma_wd_in (ma_ccs_ok own _ (ma_lk_mem hq))) hd
    · split at h
      · next q hq =>
        obtain ⟨h1, h2⟩ := ma_g_some h
        have h3 := eq_of_beq h1
        subst h3
        subst h2
        obtain ⟨h4, h5, h6⟩ := ma_sts_ok own _ (ma_lk_mem hq)
        exact sn_ldcS h5 h6 h4 hd
      · cases h
  | ldc_w i =>
    change (match ma_lk (ma_ccs own) i with
      | some q => ma_g (len == 3) (i_con q.1 (pc + 3))
      | none => none) = _ at h
    split at h
    · next q hq =>
      obtain ⟨h1, h2⟩ := ma_g_some h
      have h3 := eq_of_beq h1
      subst h3
      subst h2
      exact sn_ldcw (ma_wd_in (ma_ccs_ok own _ (ma_lk_mem hq))) hd
    · cases h
  | ldc2_w i =>
    change (match ma_lk (ma_lcs own) i with
      | some q => ma_g (len == 3) (i_lcn q.1 (pc + 3))
      | none => none) = _ at h
    split at h
    · next q hq =>
      obtain ⟨h1, h2⟩ := ma_g_some h
      have h3 := eq_of_beq h1
      subst h3
      subst h2
      exact sn_ldc2 (ma_wd_in (ma_lcs_ok own _ (ma_lk_mem hq))) hd
    · cases h
  | iadd =>
    obtain ⟨h1, h2⟩ := ma_g_some h
    have h3 := eq_of_beq h1
    subst h3
    subst h2
    exact sn_bin (fun hx hb k => lv_iadd hx hb hd k)
  | isub =>
    obtain ⟨h1, h2⟩ := ma_g_some h
    have h3 := eq_of_beq h1
    subst h3
    subst h2
    exact sn_bin (fun hx hb k => lv_isub hx hb hd k)
  | imul =>
    obtain ⟨h1, h2⟩ := ma_g_some h
    have h3 := eq_of_beq h1
    subst h3
    subst h2
    exact sn_bin (fun hx hb k => lv_imul hx hb hd k)
  | iand =>
    obtain ⟨h1, h2⟩ := ma_g_some h
    have h3 := eq_of_beq h1
    subst h3
    subst h2
    exact sn_bin (fun hx hb k => lv_iand hx hb hd k)
  | ior =>
    obtain ⟨h1, h2⟩ := ma_g_some h
    have h3 := eq_of_beq h1
    subst h3
    subst h2
    exact sn_bin (fun hx hb k => lv_ior hx hb hd k)
  | ixor =>
    obtain ⟨h1, h2⟩ := ma_g_some h
    have h3 := eq_of_beq h1
    subst h3
    subst h2
    exact sn_bin (fun hx hb k => lv_ixor hx hb hd k)
  | ishl =>
    obtain ⟨h1, h2⟩ := ma_g_some h
    have h3 := eq_of_beq h1
    subst h3
    subst h2
    exact sn_bin (fun hx hb k => lv_ishl hx hb hd k)
  | ishr =>
    obtain ⟨h1, h2⟩ := ma_g_some h
    have h3 := eq_of_beq h1
    subst h3
    subst h2
    exact sn_bin (fun hx hb k => lv_ishr hx hb hd k)
  | iushr =>
    obtain ⟨h1, h2⟩ := ma_g_some h
    have h3 := eq_of_beq h1
    subst h3
    subst h2
    exact sn_bin (fun hx hb k => lv_iushr hx hb hd rfl k)
  | idiv =>
    obtain ⟨h1, h2⟩ := ma_g_some h
    have h3 := eq_of_beq h1
    subst h3
    subst h2
    exact sn_dvi (fun hx hb hy k => lv_idiv hx hb hd hy k)
  | irem =>
    obtain ⟨h1, h2⟩ := ma_g_some h
    have h3 := eq_of_beq h1
    subst h3
    subst h2
    exact sn_dvi (fun hx hb hy k => lv_irem hx hb hd hy k)
  | ladd =>
    obtain ⟨h1, h2⟩ := ma_g_some h
    have h3 := eq_of_beq h1
    subst h3
    subst h2
    exact sn_lbn (fun hx hb k => lv_ladd hx hb hd k)
  | lsub =>
    obtain ⟨h1, h2⟩ := ma_g_some h
    have h3 := eq_of_beq h1
    subst h3
    subst h2
    exact sn_lbn (fun hx hb k => lv_lsub hx hb hd k)
  | lmul =>
    obtain ⟨h1, h2⟩ := ma_g_some h
    have h3 := eq_of_beq h1
    subst h3
    subst h2
    exact sn_lbn (fun hx hb k => lv_lmul hx hb hd k)
  | land =>
    obtain ⟨h1, h2⟩ := ma_g_some h
    have h3 := eq_of_beq h1
    subst h3
    subst h2
    exact sn_lbn (fun hx hb k => lv_land hx hb hd k)
  | lor =>
    obtain ⟨h1, h2⟩ := ma_g_some h
    have h3 := eq_of_beq h1
    subst h3
    subst h2
    exact sn_lbn (fun hx hb k => lv_lor hx hb hd k)
  | ldiv =>
    obtain ⟨h1, h2⟩ := ma_g_some h
    have h3 := eq_of_beq h1
    subst h3
    subst h2
    exact sn_ldv (fun hx hb hy k => lv_ldiv hx hb hd hy k)
  | lrem =>
    obtain ⟨h1, h2⟩ := ma_g_some h
    have h3 := eq_of_beq h1
    subst h3
    subst h2
    exact sn_ldv (fun hx hb hy k => lv_lrem hx hb hd hy k)
  | lshl =>
    obtain ⟨h1, h2⟩ := ma_g_some h
    have h3 := eq_of_beq h1
    subst h3
    subst h2
    exact sn_lsh (fun hx hb k => lv_lshl hx hb hd rfl k)
  | lshr =>
    obtain ⟨h1, h2⟩ := ma_g_some h
    have h3 := eq_of_beq h1
    subst h3
    subst h2
    exact sn_lsh (fun hx hb k => lv_lshr hx hb hd rfl k)
  | lushr =>
    obtain ⟨h1, h2⟩ := ma_g_some h
    have h3 := eq_of_beq h1
    subst h3
    subst h2
    exact sn_lsh (fun hx hb k => lv_lushr hx hb hd rfl k)
  | lcmp =>
    obtain ⟨h1, h2⟩ := ma_g_some h
    have h3 := eq_of_beq h1
    subst h3
    subst h2
    exact sn_lcp hd
  | ineg =>
    obtain ⟨h1, h2⟩ := ma_g_some h
    have h3 := eq_of_beq h1
    subst h3
    subst h2
    exact sn_una (fun hx hb k => lv_ineg hx hb hd k)
  | i2b =>
    obtain ⟨h1, h2⟩ := ma_g_some h
    have h3 := eq_of_beq h1
    subst h3
    subst h2
    exact sn_una (fun hx hb k => lv_i2b hx hb hd rfl k)
  | i2s =>
    obtain ⟨h1, h2⟩ := ma_g_some h
    have h3 := eq_of_beq h1
    subst h3
    subst h2
    exact sn_una (fun hx hb k => lv_i2s hx hb hd rfl k)
  | i2c =>
    obtain ⟨h1, h2⟩ := ma_g_some h
    have h3 := eq_of_beq h1
    subst h3
    subst h2
    exact sn_una (fun hx hb k => lv_i2c hx hb hd rfl k)
  | i2l =>
    obtain ⟨h1, h2⟩ := ma_g_some h
    have h3 := eq_of_beq h1
    subst h3
    subst h2
    exact sn_i2l hd
  | l2i =>
    obtain ⟨h1, h2⟩ := ma_g_some h
    have h3 := eq_of_beq h1
    subst h3
    subst h2
    exact sn_l2i hd
  | dup =>
    obtain ⟨h1, h2⟩ := ma_g_some h
    have h3 := eq_of_beq h1
    subst h3
    subst h2
    exact sn_dup hd
  | pop =>
    obtain ⟨h1, h2⟩ := ma_g_some h
    have h3 := eq_of_beq h1
    subst h3
    subst h2
    exact sn_pop hd
  | dup2 =>
    obtain ⟨h1, h2⟩ := ma_g_some h
    have h3 := eq_of_beq h1
    subst h3
    subst h2
    exact sn_du2 hd
  | if_icmp k off =>
    change ma_j pc off (fun t => i_if2 (ma_cmp k) t (pc + 3)) (len == 3) = _ at h
    obtain ⟨h1, h0, h2⟩ := ma_j_some h
    have h3 := eq_of_beq h1
    subst h3
    subst h2
    exact sn_if2 hd h0
  | ifCond k off =>
    change ma_j pc off (fun t => i_if1 (ma_cm0 k) t (pc + 3)) (len == 3) = _ at h
    obtain ⟨h1, h0, h2⟩ := ma_j_some h
    have h3 := eq_of_beq h1
    subst h3
    subst h2
    exact sn_if1 hd h0
  | goto off =>
    change ma_j pc off (i_gto) (len == 3) = _ at h
    obtain ⟨h1, h0, h2⟩ := ma_j_some h
    have h3 := eq_of_beq h1
    subst h3
    subst h2
    exact sn_gto hd h0
  | tableswitch dflt lo hi offs =>
    cases h
    exact sn_tsw hd
  | lookupswitch dflt ps =>
    obtain ⟨h1, h2⟩ := ma_g_some h
    subst h2
    exact sn_lsw hd h1
  | getfield i =>
    change (match ma_lk (ma_fls own) i with
      | some q => ma_g (len == 3) (if ma_isr (ma_ty q.1 q.2.1) then i_gtr q.1 q.2.1 (pc + 3) else i_gti q.1 q.2.1 (pc + 3))
      | none => if own = 10 ∧ (i = 9 ∨ i = 15) then ma_g (len == 3) (i_gts (if i = 9 then 0 else 1) (pc + 3)) else none) = _ at h
    split at h
    · next q hq =>
      obtain ⟨h1, h2⟩ := ma_g_some h
      have h3 := eq_of_beq h1
      subst h3
      subst h2
      obtain ⟨w1, w2, w3⟩ := ma_fok_at hq
      obtain ⟨c1, c2⟩ := ma_cok_all q.1 w2
      by_cases hr : ma_isr (ma_ty q.1 q.2.1) = true
      · rw [if_pos hr]
        exact sn_gtr c1 w3 hr w1 hd
      · rw [if_neg hr]
        exact sn_gti c1 w3 (by simpa using hr) w1 hd
    · split at h
      · next hc =>
        obtain ⟨h1, h2⟩ := ma_g_some h
        have h3 := eq_of_beq h1
        subst h3
        subst h2
        obtain ⟨rfl, rfl | rfl⟩ := hc
        · exact sn_gts (ma_wd_in ma_sf0) (Or.inl ⟨rfl, rfl, rfl⟩) hd
        · exact sn_gts (ma_wd_in ma_sf1) (Or.inr ⟨by decide, rfl, rfl⟩) hd
      · cases h
  | putfield i =>
    change (match ma_lk (ma_fls own) i with
      | some q => ma_g (len == 3 && (!(ma_tx q.1 q.2.1).2.2.2 || (ini && q.1 == own))) (if ma_isr (ma_ty q.1 q.2.1) then i_ptr q.1 q.2.1 (pc + 3) else i_pti q.1 q.2.1 (pc + 3))
      | none => none) = _ at h
    split at h
    · next q hq =>
      obtain ⟨h1, h2⟩ := ma_g_some h
      rw [Bool.and_eq_true] at h1
      have h3 := eq_of_beq h1.1
      subst h3
      subst h2
      obtain ⟨w1, w2, w3⟩ := ma_fok_at hq
      obtain ⟨c1, c2⟩ := ma_cok_all q.1 w2
      have hfin : (ma_tx q.1 q.2.1).2.2.2 = false ∨ (ini = true ∧ ma_rx q.1 = ma_on own) := by
        have h5 := h1.2
        rw [Bool.or_eq_true, Bool.and_eq_true] at h5
        rcases h5 with h5 | h5
        · exact Or.inl (by simpa using h5)
        · have h6 := eq_of_beq h5.2
          exact Or.inr ⟨h5.1, by rw [h6]; exact ma_own_rx (by omega)⟩
      by_cases hr : ma_isr (ma_ty q.1 q.2.1) = true
      · rw [if_pos hr]
        exact sn_ptr c1 w3 hr w1 hfin hd
      · rw [if_neg hr]
        have hr' : ma_isr (ma_ty q.1 q.2.1) = false := by simpa using hr
        exact sn_pti c1 w3 hr' (ma_tyc c2 w3 hr') w1 hfin hd
    · cases h
  | getstatic i =>
    change (if own = 10 ∧ i = 38 then ma_g (len == 3) (i_con 1 (pc + 3)) else if own = 10 ∧ i = 1053 then ma_g (len == 3) (i_spc 2 (pc + 3)) else none) = _ at h
    split at h
    · next hc =>
      obtain ⟨h1, h2⟩ := ma_g_some h
      have h3 := eq_of_beq h1
      subst h3
      subst h2
      obtain ⟨rfl, rfl⟩ := hc
      exact sn_gsc (ma_wd_in ma_ss0) hd
    · split at h
      · next hc =>
        obtain ⟨h1, h2⟩ := ma_g_some h
        have h3 := eq_of_beq h1
        subst h3
        subst h2
        obtain ⟨rfl, rfl⟩ := hc
        exact sn_gsf (ma_wd_in ma_ss1) hd
      · cases h
  | iaload =>
    obtain ⟨h1, h2⟩ := ma_g_some h
    have h3 := eq_of_beq h1
    subst h3
    subst h2
    split
    · exact sn_sld hd
    · exact sn_iald hd
  | arraylength =>
    obtain ⟨h1, h2⟩ := ma_g_some h
    have h3 := eq_of_beq h1
    subst h3
    subst h2
    split
    · exact sn_sln hd
    · exact sn_alen hd
  | baload =>
    obtain ⟨h1, h2⟩ := ma_g_some h
    have h3 := eq_of_beq h1
    subst h3
    subst h2
    exact sn_bald hd
  | laload =>
    obtain ⟨h1, h2⟩ := ma_g_some h
    have h3 := eq_of_beq h1
    subst h3
    subst h2
    exact sn_lald hd
  | aaload =>
    obtain ⟨h1, h2⟩ := ma_g_some h
    have h3 := eq_of_beq h1
    subst h3
    subst h2
    exact sn_aald hd
  | iastore =>
    obtain ⟨h1, h2⟩ := ma_g_some h
    have h3 := eq_of_beq h1
    subst h3
    subst h2
    exact sn_iast hd
  | bastore =>
    obtain ⟨h1, h2⟩ := ma_g_some h
    have h3 := eq_of_beq h1
    subst h3
    subst h2
    exact sn_bast hd
  | lastore =>
    obtain ⟨h1, h2⟩ := ma_g_some h
    have h3 := eq_of_beq h1
    subst h3
    subst h2
    exact sn_last hd
  | aastore =>
    obtain ⟨h1, h2⟩ := ma_g_some h
    have h3 := eq_of_beq h1
    subst h3
    subst h2
    exact sn_aast (ma_cok_all 1 (by omega)).1 (ma_cok_all 2 (by omega)).1 hd
  | new i =>
    change (match ma_lk (ma_cls own) i with
      | some q => ma_g (len == 3) (i_new q.1 (pc + 3))
      | none => none) = _ at h
    split at h
    · next q hq =>
      obtain ⟨h1, h2⟩ := ma_g_some h
      have h3 := eq_of_beq h1
      subst h3
      subst h2
      have h5 := ma_cls_ok own _ (ma_lk_mem hq)
      unfold ma_clk at h5
      rw [Bool.and_eq_true, Bool.and_eq_true, Bool.and_eq_true, decide_eq_true_eq] at h5
      obtain ⟨c1, c2⟩ := ma_cok_all q.1 h5.2
      exact sn_new c1 c2 (ma_wd_in h5.1.1.1) (ma_wd_in h5.1.1.2) (ma_wd_in h5.1.2) hd
    · cases h
  | newarray t =>
    cases t with
    | int =>
      obtain ⟨h1, h2⟩ := ma_g_some h
      have h3 := eq_of_beq h1
      subst h3
      subst h2
      exact sn_nwa (ty := .int) rfl (by decide) rfl (fun _ h => by cases h) (fun w n => by rw [ma_new_av]; rfl) (ma_wd_in ma_na0) hd
    | byte =>
      obtain ⟨h1, h2⟩ := ma_g_some h
      have h3 := eq_of_beq h1
      subst h3
      subst h2
      exact sn_nwa (ty := .byte) rfl (by decide) rfl (fun _ h => by cases h) (fun w n => by rw [ma_new_av]; rfl) (ma_wd_in ma_na1) hd
    | long =>
      obtain ⟨h1, h2⟩ := ma_g_some h
      have h3 := eq_of_beq h1
      subst h3
      subst h2
      exact sn_nwa (ty := .long) rfl (by decide) rfl (fun _ h => by cases h) (fun w n => by rw [ma_new_av]; rfl) (ma_wd_in ma_na2) hd
    | _ => cases h
  | anewarray i =>
    change (if own = 5 ∧ i = 33 then ma_g (len == 3) (i_nwa 3 (pc + 3)) else if own = 5 ∧ i = 39 then ma_g (len == 3) (i_nwa 4 (pc + 3)) else none) = _ at h
    split at h
    · next hc =>
      obtain ⟨h1, h2⟩ := ma_g_some h
      have h3 := eq_of_beq h1
      subst h3
      subst h2
      obtain ⟨rfl, rfl⟩ := hc
      exact sn_anw (ci := 1) (C := RX1) rfl (by omega) rfl (fun s h => h.2.2.2.2.1.1) (ma_wd_in ma_nq0) hd
    · split at h
      · next hc =>
        obtain ⟨h1, h2⟩ := ma_g_some h
        have h3 := eq_of_beq h1
        subst h3
        subst h2
        obtain ⟨rfl, rfl⟩ := hc
        exact sn_anw (ci := 2) (C := RX2) rfl (by omega) rfl (fun s h => h.2.2.2.2.1.2) (ma_wd_in ma_nq1) hd
      · cases h
  | invokestatic i =>
    change (if len = 3 then ma_inv own lv pc 0 i else none) = _ at h
    split at h
    · next hl => subst hl; exact sn_inv (Or.inl ⟨rfl, rfl⟩) h hd
    · cases h
  | invokevirtual i =>
    change (if len = 3 then ma_inv own lv pc 1 i else none) = _ at h
    split at h
    · next hl => subst hl; exact sn_inv (Or.inr (Or.inl ⟨rfl, rfl⟩)) h hd
    · cases h
  | invokespecial i =>
    change (if len = 3 then ma_inv own lv pc 2 i else none) = _ at h
    split at h
    · next hl => subst hl; exact sn_inv (Or.inr (Or.inr ⟨rfl, rfl⟩)) h hd
    · cases h
  | return_ =>
    change (if len = 1 then some (Sum.inr (Sum.inr 0)) else none) = _ at h
    split at h <;> cases h
  | ireturn =>
    change (if len = 1 then some (Sum.inr (Sum.inr 1)) else none) = _ at h
    split at h <;> cases h
  | lreturn =>
    change (if len = 1 then some (Sum.inr (Sum.inr 2)) else none) = _ at h
    split at h <;> cases h
  | areturn =>
    change (if len = 1 then some (Sum.inr (Sum.inr 3)) else none) = _ at h
    split at h <;> cases h
  | _ => cases h
end S16
end
section
/-! ===== runs of the small machine are runs of the great one ===== -/
def ma_ri (k : Nat) : Instr := match k with
  | 0 => .return_
  | 1 => .ireturn
  | 2 => .lreturn
  | _ => .areturn
theorem ma_g_inr {b : Bool} {f : ma_F} {x : (Nat × Nat × Nat × Nat × Nat) ⊕ Nat} (h : ma_g b f = some (Sum.inr x)) : False := by
  unfold ma_g at h
  split at h <;> cases h
theorem ma_j_inr {pc : Nat} {off : Int} {F : Nat → ma_F} {b : Bool} {x : (Nat × Nat × Nat × Nat × Nat) ⊕ Nat} (h : ma_j pc off F b = some (Sum.inr x)) : False := by
  unfold ma_j at h
  split at h <;> cases h
theorem ma_inv_inr {own lv pc sort idx : Nat} {x : (Nat × Nat × Nat × Nat × Nat) ⊕ Nat} (h : ma_inv own lv pc sort idx = some (Sum.inr x)) : ∃ q, (idx, q) ∈ ma_mls own ∧ x = .inl (q.1, q.2.1, q.2.2.1, q.2.2.2.1, pc + 3) ∧
    ((sort = 0 ∧ (q.1 = 0 ∨ q.1 = 4)) ∨ (sort = 1 ∧ (q.1 = 1 ∨ q.1 = 2)) ∨ (sort = 2 ∧ (q.1 = 3 ∨ q.1 = 5))) := by
  unfold ma_inv at h
  split at h
  · next q hq =>
    refine ⟨q, ma_lk_mem hq, ?_⟩
    obtain ⟨k, rest⟩ := q
    dsimp only at h ⊢
    split at h
    all_goals first
      | exact (ma_g_inr h).elim
      | (cases h; exact ⟨rfl, by simp⟩)
      | cases h
  · cases h
set_option maxHeartbeats 4000000 in
theorem ma_sem_inr {xs : Nat → Int32} {L own lv pc len : Nat} {ini : Bool} {ins : Instr} {x : (Nat × Nat × Nat × Nat × Nat) ⊕ Nat} (h : ma_sem xs L own lv ini pc ins len = some (Sum.inr x)) :
    (∃ sort i, ((sort = 0 ∧ ins = .invokestatic i) ∨ (sort = 1 ∧ ins = .invokevirtual i) ∨ (sort = 2 ∧ ins = .invokespecial i)) ∧ len = 3 ∧ ma_inv own lv pc sort i = some (Sum.inr x)) ∨ (∃ k, len = 1 ∧ x = .inr k ∧ ins = ma_ri k ∧ k < 4) := by
  cases ins with
  | invokestatic i =>
    change (if len = 3 then ma_inv own lv pc 0 i else none) = _ at h
    split at h
    · next hl => exact Or.inl ⟨0, i, Or.inl ⟨rfl, rfl⟩, hl, h⟩
    · cases h
  | invokevirtual i =>
    change (if len = 3 then ma_inv own lv pc 1 i else none) = _ at h
    split at h
    · next hl => exact Or.inl ⟨1, i, Or.inr (Or.inl ⟨rfl, rfl⟩), hl, h⟩
    · cases h
  | invokespecial i =>
    change (if len = 3 then ma_inv own lv pc 2 i else none) = _ at h
    split at h
    · next hl => exact Or.inl ⟨2, i, Or.inr (Or.inr ⟨rfl, rfl⟩), hl, h⟩
    · cases h
  | return_ =>
    change (if len = 1 then some (Sum.inr (Sum.inr 0)) else none) = _ at h
    split at h
    · next hl => cases h; exact Or.inr ⟨0, hl, rfl, rfl, by omega⟩
    · cases h
  | ireturn =>
    change (if len = 1 then some (Sum.inr (Sum.inr 1)) else none) = _ at h
    split at h
    · next hl => cases h; exact Or.inr ⟨1, hl, rfl, rfl, by omega⟩
    · cases h
  | lreturn =>
    change (if len = 1 then some (Sum.inr (Sum.inr 2)) else none) = _ at h
    split at h
    · next hl => cases h; exact Or.inr ⟨2, hl, rfl, rfl, by omega⟩
    · cases h
  | areturn =>
    change (if len = 1 then some (Sum.inr (Sum.inr 3)) else none) = _ at h
    split at h
    · next hl => cases h; exact Or.inr ⟨3, hl, rfl, rfl, by omega⟩
    · cases h
  | ldc i =>
    change (match ma_lk (ma_ccs own) i with
      | some q => ma_g (len == 2) (i_con q.1 (pc + 2))
      | none => match ma_lk (ma_sts own) i with
        | some q => ma_g (len == 2) (i_spc (3 + 2 * q.1) (pc + 2))
        | none => none) = _ at h
    split at h
    · exact (ma_g_inr h).elim
    · split at h
      · exact (ma_g_inr h).elim
      · cases h
  | ldc_w i =>
    change (match ma_lk (ma_ccs own) i with
      | some q => ma_g (len == 3) (i_con q.1 (pc + 3))
      | none => none) = _ at h
    split at h
    · exact (ma_g_inr h).elim
    · cases h
  | ldc2_w i =>
    change (match ma_lk (ma_lcs own) i with
      | some q => ma_g (len == 3) (i_lcn q.1 (pc + 3))
      | none => none) = _ at h
    split at h
    · exact (ma_g_inr h).elim
    · cases h
  | getfield i =>
    change (match ma_lk (ma_fls own) i with
      | some q => ma_g (len == 3) (if ma_isr (ma_ty q.1 q.2.1) then i_gtr q.1 q.2.1 (pc + 3) else i_gti q.1 q.2.1 (pc + 3))
      | none => if own = 10 ∧ (i = 9 ∨ i = 15) then ma_g (len == 3) (i_gts (if i = 9 then 0 else 1) (pc + 3)) else none) = _ at h
    split at h
    · exact (ma_g_inr h).elim
    · split at h
      · exact (ma_g_inr h).elim
      · cases h
  | putfield i =>
    change (match ma_lk (ma_fls own) i with
      | some q => ma_g (len == 3 && (!(ma_tx q.1 q.2.1).2.2.2 || (ini && q.1 == own))) (if ma_isr (ma_ty q.1 q.2.1) then i_ptr q.1 q.2.1 (pc + 3) else i_pti q.1 q.2.1 (pc + 3))
      | none => none) = _ at h
    split at h
    · exact (ma_g_inr h).elim
    · cases h
  | getstatic i =>
    change (if own = 10 ∧ i = 38 then ma_g (len == 3) (i_con 1 (pc + 3)) else if own = 10 ∧ i = 1053 then ma_g (len == 3) (i_spc 2 (pc + 3)) else none) = _ at h
    split at h
    · exact (ma_g_inr h).elim
    · split at h
      · exact (ma_g_inr h).elim
      · cases h
  | new i =>
    change (match ma_lk (ma_cls own) i with
      | some q => ma_g (len == 3) (i_new q.1 (pc + 3))
      | none => none) = _ at h
    split at h
    · exact (ma_g_inr h).elim
    · cases h
  | newarray t =>
    cases t with
    | int => exact (ma_g_inr h).elim
    | byte => exact (ma_g_inr h).elim
    | long => exact (ma_g_inr h).elim
    | _ => cases h
  | anewarray i =>
    change (if own = 5 ∧ i = 33 then ma_g (len == 3) (i_nwa 3 (pc + 3)) else if own = 5 ∧ i = 39 then ma_g (len == 3) (i_nwa 4 (pc + 3)) else none) = _ at h
    split at h
    · exact (ma_g_inr h).elim
    · split at h
      · exact (ma_g_inr h).elim
      · cases h
  | if_icmp k off =>
    change ma_j pc off (fun t => i_if2 (ma_cmp k) t (pc + 3)) (len == 3) = _ at h
    exact (ma_j_inr h).elim
  | ifCond k off =>
    change ma_j pc off (fun t => i_if1 (ma_cm0 k) t (pc + 3)) (len == 3) = _ at h
    exact (ma_j_inr h).elim
  | goto off =>
    change ma_j pc off i_gto (len == 3) = _ at h
    exact (ma_j_inr h).elim
  | _ => first | exact (ma_g_inr h).elim | cases h
/-- a method's start and end -/
def ma_pc (E : ma_E) (w : ma_W) (as : List ma_V) : Array Value → State → Prop := fun a U => a = (as.map (ma_v E)).toArray ∧ ma_hp E w U.heap ∧ ma_en E U U.heap
def ma_qc (E : ma_E) (v : Option ma_V) (w : ma_W) : Array Value → State → Outcome → State → Prop := fun _ st o t => o = .returned (v.map (ma_v E)) ∧ ma_hp E w t.heap ∧ ∀ q, q < e_lo E → t.heap[q]? = st.heap[q]?
theorem ma_blind {E : ma_E} {w : ma_W} {as : List ma_V} : FrameBlind (ma_pc E w as) := by
  intro a U g mk h
  exact ⟨h.1, h.2.1, ma_en_same (s := U) (U := U.calling g mk a) rfl h.2.2⟩
theorem ma_good : GoodIn ma_big ma_big := fun w h => ⟨h, good_of_word (List.mem_filter.mp h).2⟩
theorem ma_goodc {c : Jvm.Cond} (h : c ∈ ma_big) : GoodIn ma_big (c :: ma_big) := fun w hw => by
  rcases List.mem_cons.mp hw with rfl | hw
  · exact ma_good _ h
  · exact ma_good _ hw
theorem ma_mtl : ∀ (m : Nat) (t : ma_M), ma_mts m = some t → t.2.2.1 ≤ 17 := by
  have h0 : ∀ t ∈ ma_mt0, t.2.2.1 ≤ 17 := by decide +kernel
  have h1 : ∀ t ∈ ma_mt1, t.2.2.1 ≤ 17 := by decide +kernel
  have h2 : ∀ t ∈ ma_mt2, t.2.2.1 ≤ 17 := by decide +kernel
  have h3 : ∀ t ∈ ma_mt3, t.2.2.1 ≤ 17 := by decide +kernel
  have h4 : ∀ t ∈ ma_mt4, t.2.2.1 ≤ 17 := by decide +kernel
  have h5 : ∀ t ∈ ma_mt5, t.2.2.1 ≤ 17 := by decide +kernel
  have h6 : ∀ t ∈ ma_mt6, t.2.2.1 ≤ 17 := by decide +kernel
  have h7 : ∀ t ∈ ma_mt7, t.2.2.1 ≤ 17 := by decide +kernel
  intro m t h
  unfold ma_mts at h
  split at h
  · exact h0 t (List.mem_of_getElem? h)
  · exact h1 t (List.mem_of_getElem? h)
  · exact h2 t (List.mem_of_getElem? h)
  · exact h3 t (List.mem_of_getElem? h)
  · exact h4 t (List.mem_of_getElem? h)
  · exact h5 t (List.mem_of_getElem? h)
  · exact h6 t (List.mem_of_getElem? h)
  · exact h7 t (List.mem_of_getElem? h)
  · cases h
/-- the room of a method -/
def ma_rm (lv mc ms : Nat) : Room := { frames := lv, cells := mc, slots := ms, locals := 36 * lv }
section S17
variable {E : ma_E} {p : Program} {l : Launch} {e : Env} {R : Room} {s : State} {m : MethodId} {args : Array Value} {below : List Frame} {meth : Method} {c : Code} {cc : ByteArray} {nL own lv pc : Nat} {ini : Bool} {Q : State → Prop} {H : Heap} {locs : List Loc} {la : Array Slot} {cells slots mc ms : Nat}
theorem ma_callk {w w1 : ma_W} {v1 : Option ma_V} {st0 rest : List Value} {a : Array Value} (hr : va_Run p l e R s m args below meth c H locs cells slots mc ms (F0 m pc la st0) rest (ma_qc E v1 w1 a) (ma_A E)) (hI : ma_In E w s H locs) (hlo : e_lo E ≤ s.heap.size) (hlen : (ma_sh w).length ≤ (ma_sh w1).length)
    (kk : ∀ (H1 : Heap) (locs1 : List Loc), ma_In E w1 s H1 locs1 → W p l e R s m args below meth c H1 locs1 (cells + mc) (slots + ms) Q (F0 m (pc + 3) la ((v1.map (ma_v E)).toList ++ rest))) : W p l e R s m args below meth c H locs cells slots Q (F0 m pc la st0) := by
  intro T hT X
  obtain ⟨v, st₀, t, T', L, h0, X', hL, e1, e2, ⟨hv, hb, hk⟩, st⟩ := hr T hT X
  cases hv
  rw [h0] at hk
  obtain ⟨t2, a1, b1⟩ := kk T'.heap (locs ++ L) ⟨by rw [e1]; exact hb, ⟨by rw [e1, hb.1]; have := hI.1.1; have := hI.2.1; omega, fun q h1 h2 => by rw [e1, hk q (Nat.not_le.mp h2)]; exact hI.2.2.1 q h1 h2, fun x hx => (List.mem_append.mp hx).elim (hI.2.2.2 x) (hL x)⟩⟩ T' rfl X'
  exact ⟨t2, st t2 a1, b1⟩
theorem ma_en_at {w : ma_W} (hx : ma_Cx E p R s m args meth c cc nL own lv ini) (hI : ma_In E w s H locs) {U : State} (hU : U.heap = H) (hW : s.WarmedH U.vm) : ma_en E U U.heap := by
  rw [hU]
  exact ma_en_moved hW (ma_en_kept hx.2.2.2.2.2.2.1 (fun q hq => hI.2.2.1 q (Nat.lt_of_lt_of_le hq hx.2.2.2.2.2.2.1) (Nat.not_le.mpr hq)) hx.2.2.2.2.2.1)
theorem ma_rcv1 {w : ma_W} {ci : Nat} : ∀ {as : List ma_V}, ma_rcv w 1 ci as = true → ∃ o r, as = vR o :: r ∧ (ma_sh w)[o]? = some (.inl ci)
  | .inr (.inr (.inl (some o))) :: r, h => ⟨o, r, rfl, of_decide_eq_true h⟩
  | .inr (.inr (.inl none)) :: _, h => by cases h
  | .inr (.inr (.inr _)) :: _, h => by cases h
  | [], h => by cases h
  | .inl _ :: _, h => by cases h
  | .inr (.inl _) :: _, h => by cases h
theorem ma_rcv2 {w : ma_W} {ci : Nat} : ∀ {as : List ma_V}, ma_rcv w 2 ci as = true → ∃ a r, as = vS a :: r ∧ 3 ≤ a ∧ a < 33 ∧ a % 2 = 1
  | .inr (.inr (.inr a)) :: r, h => ⟨a, r, rfl, of_decide_eq_true h⟩
  | .inr (.inr (.inl none)) :: _, h => by cases h
  | .inr (.inr (.inl (some _))) :: _, h => by cases h
  | [], h => by cases h
  | .inl _ :: _, h => by cases h
  | .inr (.inl _) :: _, h => by cases h
theorem ma_rcv3 {w : ma_W} {ci : Nat} : ∀ {as : List ma_V}, ma_rcv w 3 ci as = true → ∃ o r, as = vR o :: r
  | .inr (.inr (.inl (some o))) :: r, _ => ⟨o, r, rfl⟩
  | .inr (.inr (.inl none)) :: _, h => by cases h
  | .inr (.inr (.inr _)) :: _, h => by cases h
  | [], h => by cases h
  | .inl _ :: _, h => by cases h
  | .inr (.inl _) :: _, h => by cases h
theorem ma_rcv5 {w : ma_W} {ci : Nat} : ∀ {as : List ma_V}, ma_rcv w 5 ci as = true → ∃ o r, as = vR o :: r
  | .inr (.inr (.inl (some o))) :: r, _ => ⟨o, r, rfl⟩
  | .inr (.inr (.inl none)) :: _, h => by cases h
  | .inr (.inr (.inr _)) :: _, h => by cases h
  | [], h => by cases h
  | .inl _ :: _, h => by cases h
  | .inr (.inl _) :: _, h => by cases h
/-- a call of the small machine is one of the great one -/
theorem ma_vrun {w w1 : ma_W} {st : List ma_V} {idx sort : Nat} {ins : Instr} {q : Nat × Nat × Nat × Nat × Nat × Nat × Nat} {r : ma_M × List ma_V × List ma_V} {v1 : Option ma_V} (hx : ma_Cx E p R s m args meth c cc nL own lv ini) (hI : ma_In E w s H locs) (hL : la.size = nL)
    (hd : decode cc pc = .ok (ins, 3)) (hi : (sort = 0 ∧ ins = .invokestatic idx) ∨ (sort = 1 ∧ ins = .invokevirtual idx) ∨ (sort = 2 ∧ ins = .invokespecial idx)) (hq : (idx, q) ∈ ma_mls own) (hk : (sort = 0 ∧ (q.1 = 0 ∨ q.1 = 4)) ∨ (sort = 1 ∧ (q.1 = 1 ∨ q.1 = 2)) ∨ (sort = 2 ∧ (q.1 = 3 ∨ q.1 = 5)))
    (hc : ma_call w lv (q.1, q.2.1, q.2.2.1, q.2.2.2.1, pc + 3) st = some r)
    (hM : ∀ t, ma_mts q.2.2.1 = some t → t.1 ≠ 7 → Met l t.2.2.2.2.1 (Jvm.Cond.code t.2.2.2.2.1 t.2.1 t.2.2.1 t.2.2.2.1 :: ma_big) (ma_rm t.2.2.2.2.2.1 mc ms) (ma_pc E w r.2.1) (ma_qc E v1 w1) mc ms (ma_A E))
    (hf : cells + mc ≤ R.cells ∧ slots + ms ≤ R.slots) :
    va_Run p l e R s m args below meth c H locs cells slots mc ms (F0 m pc la (st.map (ma_v E))) (r.2.2.map (ma_v E)) (ma_qc E v1 w1 (r.2.1.map (ma_v E)).toArray) (ma_A E) := by
  have hok := ma_mls_ok own _ hq
  obtain ⟨kd, ci, m', na, wl, wa, wb⟩ := q
  dsimp only at hk hc hM hok
  unfold ma_call at hc
  dsimp only at hc
  split at hc
  · cases hc
  · next t ht =>
    split at hc
    · next hg =>
      cases hc
      simp only [Bool.and_eq_true, decide_eq_true_eq] at hg
      obtain ⟨⟨⟨⟨g1, g2⟩, g3⟩, g4⟩, g5⟩ := hg
      dsimp only at hM ⊢
      have hok2 : (decide (t.1 ≠ 7) && ma_mok1 own (idx, kd, ci, m', na, wl, wa, wb) t) = true := by
        unfold ma_mok at hok
        dsimp only at hok
        rcases hk with ⟨-, h | h⟩ | ⟨-, h | h⟩ | ⟨-, h | h⟩ <;> (subst h; simpa only [ht] using hok)
      rw [Bool.and_eq_true, decide_eq_true_eq] at hok2
      obtain ⟨ht7, hok3⟩ := hok2
      have hMt := hM t ht ht7
      obtain ⟨k1, k2, k3, k4, k5⟩ := (ma_mtk_get ht).resolve_left ht7
      have hml := ma_mtl m' t ht
      have hts := hx.2.2.2.2.1
      have hfix : CallFix p m c cc nL s args ma_big (ma_on own) := ⟨hx.1, hx.2.1, hx.2.2.1, hx.2.2.2.1, hts⟩
      have hroom : (ma_rm t.2.2.2.2.2.1 mc ms).frames + 1 ≤ R.frames ∧ 8 + (t.2.2.1 + 11) + (ma_rm t.2.2.2.2.2.1 mc ms).locals ≤ R.locals := by
        have a1 := hx.2.2.2.2.2.2.2.1
        have a2 := hx.2.2.2.2.2.2.2.2.1
        show t.2.2.2.2.2.1 + 1 ≤ R.frames ∧ 8 + (t.2.2.1 + 11) + 36 * t.2.2.2.2.2.1 ≤ R.locals
        omega
      have hpc : ∀ U : State, U.heap = H → s.WarmedH U.vm → ma_pc E w (st.take na).reverse ((st.take na).reverse.map (ma_v E)).toArray U := fun U hU hW => ⟨rfl, by rw [hU]; exact hI.1, ma_en_at hx hI hU hW⟩
      have hsum : (((st.drop na).map (ma_v E)).map fun v => v.category).sum ≤ 8 := by rw [ma_catsum]; exact g3
      have hst : st.map (ma_v E) = ((st.take na).reverse.map (ma_v E)).reverse ++ (st.drop na).map (ma_v E) := by
        rw [← List.map_reverse, List.reverse_reverse, ← List.map_append, List.take_append_drop]
      have hlen : (st.take na).reverse.length = na := by rw [List.length_reverse, List.length_take]; omega
      generalize hAs : (st.take na).reverse = As at *
      generalize hRs : st.drop na = Rs at *
      have hR8 := lv_room (m := m) (pc := pc) (ls := la) (rest := st.map (ma_v E)) (st := Rs.map (ma_v E)) hsum
      unfold ma_mok1 at hok3
      dsimp only at hok3
      rcases hk with ⟨hs, h | h⟩ | ⟨hs, h | h⟩ | ⟨hs, h | h⟩
      · subst h
        have hins : ins = .invokestatic idx := by
          rcases hi with h | h | h
          · exact h.2
          · omega
          · omega
        subst hins
        simp only [Bool.and_eq_true] at hok3
        obtain ⟨⟨w1', w2'⟩, w3'⟩ := hok3
        unfold ma_par at w3'
        rw [decide_eq_true_eq] at w3'
        exact va_runS (n := na) hfix hMt ⟨callB_of na hts (ma_goodc k1) rfl rfl rfl (hts _ k2) (hts _ (ma_wd_in w1')) ⟨k4.1, k4.2, w3'⟩ hroom, hts _ (ma_wd_in w2')⟩ ⟨ma_blind, hpc⟩ rfl (by rw [List.length_map]; exact hlen) hL hst hR8 hd hf
      · subst h
        have hins : ins = .invokestatic idx := by
          rcases hi with h | h | h
          · exact h.2
          · omega
          · omega
        subst hins
        simp only [Bool.and_eq_true, decide_eq_true_eq] at hok3
        obtain ⟨⟨w1', w2'⟩, w3'⟩ := hok3
        unfold ma_par at w3'
        rw [decide_eq_true_eq] at w3'
        exact va_runSN (n := na) (host := RX5) hfix hMt ⟨va_cnB na hts (ma_goodc k1) rfl rfl rfl (hx.2.2.2.2.2.1.2.2.2.1 _ w1') (hts _ k2) ⟨k4.1, k4.2, w3'⟩ hroom, hts _ (ma_wd_in w2'), trivial⟩ ⟨ma_blind, hpc⟩ rfl (by rw [List.length_map]; exact hlen) hL hst hR8 hd hf
      · subst h
        have hins : ins = .invokevirtual idx := by
          rcases hi with h | h | h
          · omega
          · exact h.2
          · omega
        subst hins
        simp only [Bool.and_eq_true, decide_eq_true_eq] at hok3
        obtain ⟨⟨⟨⟨⟨⟨w1', w2'⟩, w3'⟩, w4'⟩, w5'⟩, w6'⟩, w7'⟩ := hok3
        unfold ma_par at w7'
        rw [decide_eq_true_eq] at w7'
        obtain ⟨o, As', rfl, g6⟩ := ma_rcv1 g5
        · have hat := hI.1.2 _ _ g6
          have hrec := va_recv hx.2.2.2.2.2.1.1 (ma_one hat) (ma_cok_all ci w5').1.1 (q0 := 0) rfl
          exact va_runV (n := na - 1) (C := ma_rx ci) (As := As'.map (ma_v E)) (b := e_lo E + o) hfix hMt ⟨callB_of (na - 1) hts (ma_goodc k1) rfl rfl rfl (hts _ k2) (hts _ (ma_wd_in w1')) ⟨k4.1, k4.2, w7'⟩ hroom, hts _ (ma_wd_in w2'), by rw [← w4']; exact hts _ (ma_sl_in w3')⟩ ⟨ma_blind, hrec, hpc⟩ rfl (by rw [List.length_map]; rw [List.length_cons] at hlen; omega) hL (by rw [hst, List.map_cons, List.reverse_cons, List.append_assoc]; rfl) hR8 hd hf
      · subst h
        have hins : ins = .invokevirtual idx := by
          rcases hi with h | h | h
          · omega
          · exact h.2
          · omega
        subst hins
        simp only [Bool.and_eq_true, decide_eq_true_eq] at hok3
        obtain ⟨⟨⟨⟨⟨w1', w2'⟩, w3'⟩, w4'⟩, w6'⟩, w7'⟩ := hok3
        unfold ma_par at w7'
        rw [decide_eq_true_eq] at w7'
        obtain ⟨a, As', rfl, ga, gb, gc⟩ := ma_rcv2 g5
        have hdummy : True := trivial
        · skip
          have hrec := vk_recv hx.2.2.2.2.2.1.2.2.2.2.2.2.1 (i := (a - 3) / 2) (by omega) hI.2
          have e1 : ma_v E (vS a) = .ref (e_ak E ((a - 3) / 2)) := ma_sp_str ga gc
          have e2 : (Sum.inr (Sum.inr (Sum.inr a)) :: As').map (ma_v E) = .ref (e_ak E ((a - 3) / 2)) :: As'.map (ma_v E) := by rw [List.map_cons, e1]
          rw [e2] at hpc hst ⊢
          exact va_runV (n := na - 1) (C := "java/lang/String") (As := As'.map (ma_v E)) (b := e_ak E ((a - 3) / 2)) hfix hMt ⟨callB_of (na - 1) hts (ma_goodc k1) rfl rfl rfl (hts _ k2) (hts _ (ma_wd_in w1')) ⟨k4.1, k4.2, w7'⟩ hroom, hts _ (ma_wd_in w2'), by rw [← w4']; exact hts _ (ma_sl_in w3')⟩ ⟨ma_blind, hrec, hpc⟩ rfl (by rw [List.length_map]; rw [List.length_cons] at hlen; omega) hL (by rw [hst, List.reverse_cons, List.append_assoc]; rfl) hR8 hd hf
      · subst h
        have hins : ins = .invokespecial idx := by
          rcases hi with h | h | h
          · omega
          · omega
          · exact h.2
        subst hins
        simp only [Bool.and_eq_true, decide_eq_true_eq] at hok3
        obtain ⟨⟨⟨⟨⟨w1', w2'⟩, w3'⟩, w4'⟩, w6'⟩, w7'⟩ := hok3
        unfold ma_par at w7'
        rw [decide_eq_true_eq] at w7'
        obtain ⟨o, As', rfl⟩ := ma_rcv3 g5
        · rw [w4'] at hMt k1
          exact va_runI (n := na - 1) (As := As'.map (ma_v E)) (b := e_lo E + o) hfix hMt ⟨callB_of (na - 1) hts (ma_goodc k1) rfl rfl rfl (hts _ k2) (hts _ (ma_wd_in w1')) ⟨k4.1, k4.2, w7'⟩ hroom, w3', hts _ (ma_wd_in w2')⟩ ⟨ma_blind, hpc⟩ rfl (by rw [List.length_map]; rw [List.length_cons] at hlen; omega) hL (by rw [hst, List.map_cons, List.reverse_cons, List.append_assoc]; rfl) hR8 hd hf
      · subst h
        have hins : ins = .invokespecial idx := by
          rcases hi with h | h | h
          · omega
          · omega
          · exact h.2
        subst hins
        simp only [Bool.and_eq_true, decide_eq_true_eq] at hok3
        obtain ⟨⟨⟨⟨⟨w1', w2'⟩, w3'⟩, w4'⟩, w6'⟩, w7'⟩ := hok3
        unfold ma_par at w7'
        rw [decide_eq_true_eq] at w7'
        obtain ⟨o, As', rfl⟩ := ma_rcv5 g5
        · rw [w4'] at hMt k1
          exact va_runIN (n := na - 1) (host := RX5) (As := As'.map (ma_v E)) (b := e_lo E + o) hfix hMt ⟨va_cnB (na - 1) hts (ma_goodc k1) rfl rfl rfl (hx.2.2.2.2.2.1.2.2.2.1 _ w1') (hts _ k2) ⟨k4.1, k4.2, w7'⟩ hroom, w3', hts _ (ma_wd_in w2')⟩ ⟨ma_blind, hpc⟩ rfl (by rw [List.length_map]; rw [List.length_cons] at hlen; omega) hL (by rw [hst, List.map_cons, List.reverse_cons, List.append_assoc]; rfl) hR8 hd hf
    · cases hc
end S17
end
section
/-! ===== the contract of every method, out of the small machine's run ===== -/
theorem ma_arg_args {E : ma_E} : ∀ (as : List ma_V) (i j : Nat) (v : ma_V), (ma_arg as)[j]? = some v → ma_df v = true → (i + j, ma_v E v) ∈ lv_args i (as.map (ma_v E))
  | [], i, j, v, h, _ => by cases h
  | .inr (.inl x) :: r, i, j, v, h, hd => by
    match j, h with
    | 0, h => cases h; exact List.mem_cons_self
    | 1, h => cases h; cases hd
    | j + 2, h =>
      refine List.mem_cons_of_mem _ ?_
      have ih := ma_arg_args (E := E) r (i + 2) j v h hd
      have e : (if (ma_v E (vL x)).category = 2 then i + 2 else i + 1) = i + 2 := rfl
      rw [e, show i + (j + 2) = i + 2 + j by omega]
      exact ih
  | .inl x :: r, i, j, v, h, hd => by
    match j, h with
    | 0, h => cases h; exact List.mem_cons_self
    | j + 1, h =>
      refine List.mem_cons_of_mem _ ?_
      have ih := ma_arg_args (E := E) r (i + 1) j v h hd
      have e : (if (ma_v E (vI x)).category = 2 then i + 2 else i + 1) = i + 1 := rfl
      rw [e, show i + (j + 1) = i + 1 + j by omega]
      exact ih
  | .inr (.inr y) :: r, i, j, v, h, hd => by
    match j, h with
    | 0, h => cases h; exact List.mem_cons_self
    | j + 1, h =>
      refine List.mem_cons_of_mem _ ?_
      have ih := ma_arg_args (E := E) r (i + 1) j v h hd
      have e : (if (ma_v E (.inr (.inr y))).category = 2 then i + 2 else i + 1) = i + 1 := by rw [ma_v_cat (fun x hx => by cases hx)]; rfl
      rw [e, show i + (j + 1) = i + 1 + j by omega]
      exact ih
theorem ma_arg_len {E : ma_E} : ∀ (as : List ma_V), (lg_sl (as.map (ma_v E))).length = (ma_arg as).length
  | [] => rfl
  | .inr (.inl x) :: r => by
    have ih := ma_arg_len (E := E) r
    show (lg_sl (ma_v E (vL x) :: r.map (ma_v E))).length = (vL x :: vS 0 :: ma_arg r).length
    simp only [lg_sl, List.flatMap_cons, List.length_append, List.length_cons] at ih ⊢
    rw [ih]
    show _ + _ = _
    simp [ma_v, Value.category]
    omega
  | .inl x :: r => by
    have ih := ma_arg_len (E := E) r
    show (lg_sl (ma_v E (vI x) :: r.map (ma_v E))).length = (vI x :: ma_arg r).length
    simp only [lg_sl, List.flatMap_cons, List.length_append, List.length_cons] at ih ⊢
    rw [ih]
    simp [ma_v, Value.category]
    omega
  | .inr (.inr y) :: r => by
    have ih := ma_arg_len (E := E) r
    have hc : (ma_v E (.inr (.inr y))).category = 1 := ma_v_cat (fun x hx => by cases hx)
    show (lg_sl (ma_v E (.inr (.inr y)) :: r.map (ma_v E))).length = (Sum.inr (Sum.inr y) :: ma_arg r).length
    simp only [lg_sl, List.flatMap_cons, List.length_append, List.length_cons] at ih ⊢
    rw [ih]
    simp [hc]
    omega
theorem ma_ent_Ls {E : ma_E} {as : List ma_V} {n : Nat} (h : (ma_arg as).length ≤ n) : ma_Ls E ((lg_sl (as.map (ma_v E)) ++ List.replicate (n - (lg_sl (as.map (ma_v E))).length) Slot.unset).toArray) n (ma_ent n as) := by
  have h1 := lv_entry (as.map (ma_v E)) (n := n) (by rw [ma_arg_len]; exact h)
  refine ⟨h1.1, h1.2.1, by simp [ma_ent]; omega, fun j v hj hd => ?_⟩
  unfold ma_ent at hj
  by_cases hl : j < (ma_arg as).length
  · rw [List.getElem?_append_left hl] at hj
    have h2 := ma_arg_args (E := E) as 0 j v hj hd
    rw [Nat.zero_add] at h2
    exact h1.2.2 _ h2
  · rw [List.getElem?_append_right (by omega)] at hj
    have := List.eq_of_mem_replicate (List.mem_of_getElem? hj)
    subst this
    cases hd
/-- the inner run -/
def ma_Sim (E : ma_E) (n : Nat) : Prop := ∀ (m0 pc : Nat) (t : ma_M) (ls st : List ma_V) (w : ma_W) (v : Option ma_V) (w' : ma_W), ma_mts m0 = some t → ma_run (e_xs E) (e_ll E) n m0 pc ls st w = some (v, w') →
  (∃ x, ma_sh w' = ma_sh w ++ x) ∧
  ∀ {p : Program} {l : Launch} {e : Env} {R : Room} {s : State} {m : MethodId} {args : Array Value} {below : List Frame} {meth : Method} {c : Code} {Q : State → Prop} {cells slots : Nat},
    ma_Cx E p R s m args meth c t.2.1 t.2.2.1 t.1 t.2.2.2.2.2.1 (t.2.2.2.2.1.name == "<init>") → cells + ((ma_sh w').length - (ma_sh w).length) ≤ R.cells → slots + (ma_szs (ma_sh w') - ma_szs (ma_sh w)) ≤ R.slots →
    (∀ (k pc' : Nat) (st' : List ma_V) (H' : Heap) (locs' : List Loc) (la' : Array Slot), k < 4 → decode t.2.1 pc' = .ok (ma_ri k, 1) → ma_ret k t.2.2.2.1 st' = some v → ma_In E w' s H' locs' → W p l e R s m args below meth c H' locs' (cells + ((ma_sh w').length - (ma_sh w).length)) (slots + (ma_szs (ma_sh w') - ma_szs (ma_sh w))) Q (F0 m pc' la' (st'.map (ma_v E)))) →
    ma_G E p l e R s m args below meth c t.2.2.1 Q pc ls st w cells slots
theorem ma_szs_app {a b : List ma_Sh} : ma_szs (a ++ b) = ma_szs a + ma_szs b := by
  unfold ma_szs
  rw [List.map_append, List.sum_append]
theorem ma_ext_len {w w' : ma_W} (h : ∃ x, ma_sh w' = ma_sh w ++ x) : (ma_sh w).length ≤ (ma_sh w').length ∧ ma_szs (ma_sh w) ≤ ma_szs (ma_sh w') := by
  obtain ⟨x, hx⟩ := h
  rw [hx, List.length_append, ma_szs_app]
  omega
theorem ma_ret_cases {k : Nat} {ret : Option FieldType} {st : List ma_V} {v : Option ma_V} (h : ma_ret k ret st = some v) :
    (k = 0 ∧ st = [] ∧ ret = none ∧ v = none) ∨ (∃ x, k = 1 ∧ st = [vI x] ∧ v = some (vI x) ∧ (ret = some .int ∨ ∃ ty, (ty = .boolean ∨ ty = .char ∨ ty = .byte) ∧ ret = some ty ∧ vp_nar ty x = x)) ∨ (∃ x, k = 2 ∧ st = [vL x] ∧ ret = some .long ∧ v = some (vL x)) ∨ (∃ a, k = 3 ∧ st = [vS a] ∧ ret = some (.object "java/lang/String") ∧ 3 ≤ a ∧ a < 33 ∧ a % 2 = 1 ∧ v = some (vS a)) := by
  unfold ma_ret at h
  split at h
  · split at h
    · next hn => cases h; exact Or.inl ⟨rfl, rfl, hn, rfl⟩
    · cases h
  · next x =>
    split at h
    · cases h; exact Or.inr (Or.inl ⟨x, rfl, rfl, rfl, Or.inl rfl⟩)
    · split at h
      · next hv => cases h; exact Or.inr (Or.inl ⟨x, rfl, rfl, rfl, Or.inr ⟨_, Or.inl rfl, rfl, of_decide_eq_true hv⟩⟩)
      · cases h
    · split at h
      · next hv => cases h; exact Or.inr (Or.inl ⟨x, rfl, rfl, rfl, Or.inr ⟨_, Or.inr (Or.inl rfl), rfl, of_decide_eq_true hv⟩⟩)
      · cases h
    · split at h
      · next hv => cases h; exact Or.inr (Or.inl ⟨x, rfl, rfl, rfl, Or.inr ⟨_, Or.inr (Or.inr rfl), rfl, of_decide_eq_true hv⟩⟩)
      · cases h
    · cases h
  · next x =>
    split at h
    · next hn => cases h; exact Or.inr (Or.inr (Or.inl ⟨x, rfl, rfl, hn, rfl⟩))
    · cases h
  · next a =>
    split at h
    · next hn => cases h; exact Or.inr (Or.inr (Or.inr ⟨a, rfl, rfl, hn.1, hn.2.1, hn.2.2.1, hn.2.2.2, rfl⟩))
    · cases h
  · cases h
theorem ma_vpn {t : FieldType} {x : Int32} (ht : t = .boolean ∨ t = .char ∨ t = .byte) (h : vp_nar t x = x) : narrow t (.int x) = .int x := by
  have key : ∃ y, narrow t (.int x) = .int y := by
    rcases ht with rfl | rfl | rfl <;> exact ⟨_, rfl⟩
  obtain ⟨y, hy⟩ := key
  unfold vp_nar at h
  rw [hy] at h
  rw [hy]
  exact congrArg _ h
set_option maxHeartbeats 2000000 in
theorem ma_met {E : ma_E} {n : Nat} (ih : ma_Sim E n) (l : Launch) {m0 : Nat} {t : ma_M} {as : List ma_V} {w w' : ma_W} {v : Option ma_V} (ht : ma_mts m0 = some t) (h7 : t.1 ≠ 7) (hrun : ma_run (e_xs E) (e_ll E) n m0 0 (ma_ent t.2.2.1 as) [] w = some (v, w')) (hlen : (ma_arg as).length ≤ t.2.2.1) :
    Met l t.2.2.2.2.1 (Jvm.Cond.code t.2.2.2.2.1 t.2.1 t.2.2.1 t.2.2.2.1 :: ma_big) (ma_rm t.2.2.2.2.2.1 ((ma_sh w').length - (ma_sh w).length) (ma_szs (ma_sh w') - ma_szs (ma_sh w))) (ma_pc E w as) (ma_qc E v w') ((ma_sh w').length - (ma_sh w).length) (ma_szs (ma_sh w') - ma_szs (ma_sh w)) (ma_A E) := by
  obtain ⟨k1, k2, k3, k4, k5⟩ := (ma_mtk_get ht).resolve_left h7
  refine Met.ofW (cc := t.2.1) (maxL := t.2.2.1) (ret := t.2.2.2.1) k5 rfl ?_
  intro p e s m args below meth c s₁ B hml hP
  obtain ⟨rfl, hhp, hen⟩ := hP
  have hts := atoms_spec (ws := Jvm.Cond.code t.2.2.2.2.1 t.2.1 t.2.2.1 t.2.2.2.1 :: ma_big) B.pre
  have hown : s.vm.findClass t.2.2.2.2.1.cls = some m.cls := findClass_of_methodNamed B.named
  rw [k3] at hown
  have hx : ma_Cx E p (ma_rm t.2.2.2.2.2.1 ((ma_sh w').length - (ma_sh w).length) (ma_szs (ma_sh w') - ma_szs (ma_sh w))) s m ((as.map (ma_v E)).toArray) meth c t.2.1 t.2.2.1 t.1 t.2.2.2.2.2.1 (t.2.2.2.2.1.name == "<init>") := by
    refine ⟨B.exec, B.bytes, hml, hown, fun w hw => hts w (List.mem_cons_of_mem _ hw), hen, by rw [hhp.1]; omega, Nat.le_refl _, Nat.le_refl _, fun h => ?_⟩
    rw [(name_of_methodNamed B.named B.method).1]
    exact eq_of_beq h
  have hS := (ih m0 0 t (ma_ent t.2.2.1 as) [] w v w' ht hrun).2 (l := l) (e := e) (below := below) (Q := MQ below (ma_qc E v w') ((as.map (ma_v E)).toArray) s ((ma_sh w').length - (ma_sh w).length) (ma_szs (ma_sh w') - ma_szs (ma_sh w)) (ma_A E)) (cells := 0) (slots := 0) hx (by rw [Nat.zero_add]; exact Nat.le_refl _) (by rw [Nat.zero_add]; exact Nat.le_refl _) ?_
  · rw [lg_entry_eq]
    exact hS s.heap [] _ ⟨hhp, va_S.rf⟩ (ma_ent_Ls hlen)
  · intro k pc' st' H' locs' la' hk hd hret hI
    rw [Nat.zero_add, Nat.zero_add]
    have hr := B.returns
    have hlocks := B.notSynchronized
    have hbl : ∀ q, q < e_lo E → H'[q]? = s.heap[q]? := fun q hq => hI.2.2.1 q (by rw [hhp.1]; omega) (Nat.not_le.mpr hq)
    have hf : ∀ q ∈ locs', ma_A E q.base := hI.2.2.2
    rcases ma_ret_cases hret with ⟨rfl, rfl, hn, rfl⟩ | ⟨x, rfl, rfl, rfl, hn | ⟨ty, hty, hn, hv⟩⟩ | ⟨x, rfl, rfl, hn, rfl⟩ | ⟨a, rfl, rfl, hn, ha, hb, hc, rfl⟩
    · rw [hn] at hr
      exact W.vret B.exec B.bytes hr (fun t' ht' hW => ⟨rfl, by rw [ht']; exact hI.1, fun q hq => by rw [ht']; exact hbl q hq⟩) hf hd
    · rw [hn] at hr
      exact W.iret (v := x) B.exec B.bytes hr (fun t' ht' hW => ⟨rfl, by rw [ht']; exact hI.1, fun q hq => by rw [ht']; exact hbl q hq⟩) hf hd
    · rw [hn] at hr
      exact W.zret (v := x) B.exec B.bytes hr (ma_vpn hty hv) (fun t' ht' hW => ⟨rfl, by rw [ht']; exact hI.1, fun q hq => by rw [ht']; exact hbl q hq⟩) hf hd
    · rw [hn] at hr
      exact W.lret (v := x) B.exec B.bytes hr (fun t' ht' hW => ⟨rfl, by rw [ht']; exact hI.1, fun q hq => by rw [ht']; exact hbl q hq⟩) hf hd
    · rw [hn] at hr
      have e1 : ma_v E (vS a) = .ref (e_ak E ((a - 3) / 2)) := ma_sp_str ha hc
      show W _ _ _ _ _ _ _ _ _ _ _ _ _ _ _ (F0 m pc' la' [ma_v E (vS a)])
      rw [e1]
      exact W.aret B.exec B.bytes hr (Or.inl ⟨_, rfl⟩) (Or.inr ⟨_, rfl⟩) (fun t' ht' hW => ⟨by rw [Option.map_some, e1], by rw [ht']; exact hI.1, fun q hq => by rw [ht']; exact hbl q hq⟩) hf hd
theorem ma_sim {E : ma_E} : ∀ n, ma_Sim E n
  | 0 => by
    intro m0 pc t ls st w v w' ht h
    cases h
  | n + 1 => by
    have ih := ma_sim (E := E) n
    intro m0 pc t ls st w v w' ht h
    unfold ma_run at h
    rw [ht] at h
    dsimp only at h
    split at h
    · cases h
    · next f hpg =>
      split at h
      · cases h
      · next c' hf =>
        unfold ma_pg at hpg
        rw [ht] at hpg
        dsimp only at hpg
        split at hpg
        · next r hd =>
          obtain ⟨ins, len⟩ := r
          have hsn := sn_all (E := E) hd hpg
          obtain ⟨x1, hx1⟩ := hsn.1 _ _ hf
          obtain ⟨⟨x2, hx2⟩, hk⟩ := ih m0 c'.1 t c'.2.1 c'.2.2.1 c'.2.2.2 v w' ht h
          have hx1' : ma_sh c'.2.2.2 = ma_sh w ++ x1 := hx1
          have l1 := ma_ext_len ⟨x1, hx1'⟩
          have l2 := ma_ext_len ⟨x2, hx2⟩
          refine ⟨⟨x1 ++ x2, by rw [hx2, hx1', List.append_assoc]⟩, ?_⟩
          intro p l e R s m args below meth c Q cells slots hx hc hs hret H locs la hI hL
          have e1 : cells + ((ma_sh c'.2.2.2).length - (ma_sh w).length) + ((ma_sh w').length - (ma_sh c'.2.2.2).length) = cells + ((ma_sh w').length - (ma_sh w).length) := by omega
          have e2 : slots + (ma_szs (ma_sh c'.2.2.2) - ma_szs (ma_sh w)) + (ma_szs (ma_sh w') - ma_szs (ma_sh c'.2.2.2)) = slots + (ma_szs (ma_sh w') - ma_szs (ma_sh w)) := by omega
          refine hsn.2 hx hL.2.2.1 hf (by omega) (by omega) (by omega) (by omega) ?_ H locs la hI hL
          refine hk (cells := cells + ((ma_sh c'.2.2.2).length - (ma_sh w).length)) (slots := slots + (ma_szs (ma_sh c'.2.2.2) - ma_szs (ma_sh w))) hx (by rw [e1]; exact hc) (by rw [e2]; exact hs) ?_
          rw [e1, e2]
          exact hret
        · cases hpg
    · next q hpg =>
      split at h
      · cases h
      · next r hcall =>
        split at h
        · cases h
        · next b hb =>
          unfold ma_pg at hpg
          rw [ht] at hpg
          dsimp only at hpg
          split at hpg
          · next r0 hd =>
            obtain ⟨ins, len⟩ := r0
            rcases ma_sem_inr hpg with ⟨sort, idx, hi, hlen, hinv⟩ | ⟨k, -, hk, -⟩
            · dsimp only at hlen
              subst hlen
              obtain ⟨q', hq', hqe, hkind⟩ := ma_inv_inr hinv
              cases hqe
              obtain ⟨v1, w1⟩ := b
              have hc2 := hcall
              unfold ma_call at hc2
              dsimp only at hc2
              split at hc2
              · cases hc2
              · next t' ht' =>
                split at hc2
                · next hg =>
                  simp only [Bool.and_eq_true, decide_eq_true_eq] at hg
                  have g4 := hg.1.2
                  cases hc2
                  dsimp only at hb h
                  obtain ⟨x1, hx1⟩ := (ih q'.2.2.1 0 t' _ [] w v1 w1 ht' hb).1
                  obtain ⟨⟨x2, hx2⟩, hk⟩ := ih m0 (pc + 3) t ls _ w1 v w' ht h
                  have l1 := ma_ext_len ⟨x1, hx1⟩
                  have l2 := ma_ext_len ⟨x2, hx2⟩
                  refine ⟨⟨x1 ++ x2, by rw [hx2, hx1, List.append_assoc]⟩, ?_⟩
                  intro p l e R s m args below meth c Q cells slots hx hc hs hret H locs la hI hL
                  have e1 : cells + ((ma_sh w1).length - (ma_sh w).length) + ((ma_sh w').length - (ma_sh w1).length) = cells + ((ma_sh w').length - (ma_sh w).length) := by omega
                  have e2 : slots + (ma_szs (ma_sh w1) - ma_szs (ma_sh w)) + (ma_szs (ma_sh w') - ma_szs (ma_sh w1)) = slots + (ma_szs (ma_sh w') - ma_szs (ma_sh w)) := by omega
                  have hrun := ma_vrun (l := l) (e := e) (below := below) (cells := cells) (slots := slots) (mc := (ma_sh w1).length - (ma_sh w).length) (ms := ma_szs (ma_sh w1) - ma_szs (ma_sh w)) (v1 := v1) (w1 := w1) hx hI hL.1 hd hi hq' hkind hcall (fun t2 ht2 h72 => by
                    rw [ht'] at ht2
                    cases ht2
                    exact ma_met ih l ht' h72 hb g4) ⟨by omega, by omega⟩
                  refine ma_callk hrun hI hx.2.2.2.2.2.2.1 l1.1 (fun H1 locs1 hI1 => ?_)
                  have k1 := hk (cells := cells + ((ma_sh w1).length - (ma_sh w).length)) (slots := slots + (ma_szs (ma_sh w1) - ma_szs (ma_sh w))) hx (by rw [e1]; exact hc) (by rw [e2]; exact hs) (by rw [e1, e2]; exact hret) H1 locs1 la hI1 hL
                  have e3 : (v1.map (ma_v E)).toList ++ (st.drop q'.2.2.2.1).map (ma_v E) = (v1.toList ++ st.drop q'.2.2.2.1).map (ma_v E) := by
                    cases v1 <;> simp
                  rw [e3]
                  exact k1
                · cases hc2
            · cases hk
          · cases hpg
    · next k hpg =>
      split at h
      · cases h
      · next v2 hv2 =>
        cases h
        refine ⟨⟨[], by rw [List.append_nil]⟩, ?_⟩
        intro p l e R s m args below meth c Q cells slots hx hc hs hret H locs la hI hL
        unfold ma_pg at hpg
        rw [ht] at hpg
        dsimp only at hpg
        split at hpg
        · next r0 hd =>
          obtain ⟨ins, len⟩ := r0
          rcases ma_sem_inr hpg with ⟨sort, idx, hi, hlen, hinv⟩ | ⟨k', hlen, hk, hins, hk4⟩
          · obtain ⟨q', hq', hqe, hkind⟩ := ma_inv_inr hinv
            cases hqe
          · cases hk
            dsimp only at hins hlen
            subst hins
            subst hlen
            have h9 := hret k pc st H locs la hk4 hd hv2 hI
            rw [Nat.sub_self, Nat.sub_self] at h9
            exact h9
        · cases hpg
end
section
/-! THE CLAIM OUT OF ONE WALK OF THE LAW'S BODY. Your part is whole_start (and what it stands on); all else here is the same for every law, but numbers. -/
def R_law : String := "LeafFallsLaw"
def lw_P (b : Addr) (xs : List Int32) (args : Array Value) (s : State) : Prop := args = #[.ref b] ∧ s.IntsAt b xs ∧ xs.length ≤ 2560 ∧ (Jvm.Cond.and given_1 narrow_1).before args s = true
def lw_Q (_ : Array Value) (s : State) (o : Outcome) (t : State) : Prop := o = .returned (some (.int 1)) ∧ Framed s o t [] 600000 7302249
def lw_Z (below : List Frame) (a : Array Value) (s : State) : State → Prop := fun t => ∃ o, t.status = .running ∧ Ended t below o ∧ lw_Q a s o t
/-- the law's own end, with 1 on the stack, nothing written that was there before, its room as the claim has it -/
theorem lw_ret {p : Program} {l : Launch} {e : Env} {s : State} {m : MethodId} {below : List Frame} {meth : Method} {c : Code} {b : Nat} (hx : p.tables.exec = Jvm.exec) (hb : c.code = code) (hr : meth.sig.returnType = ret) (hlocks : meth.locks = false) {pc : Nat} {H : Heap} {ls : Array Slot} (hdg : decode code pc = .ok (.ireturn, 1)) : W p l e room_1 s m #[Value.ref b] below meth c H [] 600000 7302249 (lw_Z below #[Value.ref b] s) (F0 m pc ls [.int 1]) := by
  intro T hT X
  obtain ⟨fs, hret, hrun, hended, hW, hframe⟩ := X.leave (v := some (.int 1)) (hlocks := hlocks) (fun h => by rw [hr] at h; cases h)
  have hmeth' : T.vm.method? m = some meth := X.method'
  refine ⟨T.setFrames fs, ?_, .returned (some (.int 1)), hrun, hended, rfl, ⟨_, rfl⟩, hW, hframe⟩
  jvm_step X.here [X.here.top, hx, hb, hdg, hmeth', hr, ret, narrow_b1]
  (try refine ⟨rfl, ?_⟩); (try refine ⟨rfl, ?_⟩)
  first | (intro acts; rw [hret _ acts rfl rfl rfl]) | rw [hret _ _ rfl rfl rfl]
  exact Steps.refl _
/-- what holds at the law's entry: the machine, the code, the tables' words (any of lw_tbl by 'hts w (by decide +kernel)'), the script of L ints xs at the cell b, what the Statement gives of the start (any of its parts by flat_of_before) -/
def lw_At (p : Program) (s : State) (m : MethodId) (meth : Method) (c : Code) (b L : Nat) (xs : Nat → Int32) : Prop :=
  p.tables.exec = Jvm.exec ∧ c.code = code ∧ meth.sig.returnType = ret ∧ c.maxLocals = 4 ∧ s.vm.findClass R_law = some m.cls ∧ (∀ w ∈ lw_tbl, w.before #[Value.ref b] s = true) ∧ va_X b L xs s s.heap ∧ b < s.heap.size ∧ meth.locks = false ∧ (Jvm.Cond.and given_1 narrow_1).before #[Value.ref b] s = true
end
section
/-! ===== the law, out of a run of the small machine ===== -/
def ma_w0 : ma_W := ([], fun _ _ => 0, fun _ _ => none, fun _ _ => 0, fun _ _ => 0, fun _ _ => none)
/-- what has to be shown of the small machine alone -/
def ma_goal : Prop := ∀ (L : Nat) (xs : Nat → Int32), L ≤ 2560 → ∃ n w', ma_run xs L n 233 0 (ma_ent 4 [vS 1]) [] ma_w0 = some (some (vI 1), w') ∧ (ma_sh w').length ≤ 600000 ∧ ma_szs (ma_sh w') ≤ 7302249
def ma_law : ma_M := (7, cL_law, 4, some .boolean, yL_law, 10, 0, 0)
theorem ma_law_at : ma_mts 233 = some ma_law := rfl
theorem ma_tbw {c : Jvm.Cond} (i : Nat) (h : tables_1[i]? = some c) : c ∈ lw_tbl := List.mem_append_right _ (List.mem_of_getElem? h)
theorem ma_cy {args : Array Value} {s : State} {ty : FieldType} (h : (Jvm.Cond.arrayClass ty).before args s = true) (hno : ∀ C, ty ≠ .object C) : ∃ cA : ClassId, ArrOfT s cA ty ∧ va_RA s cA ty := by
  obtain ⟨cA, kA, comp, h1, h2, h3⟩ := Cond.arrayClass_spec h
  refine ⟨cA, fun n z => ⟨fun k h => (by cases h), kA, h2, comp, h3⟩, ?_⟩
  unfold va_RA
  split
  · next C => exact absurd rfl (hno C)
  · exact h1
theorem ma_co {args : Array Value} {s : State} {C : String} (h : (Jvm.Cond.arrayOver (.object C)).before args s = true) : ∃ cA : ClassId, ArrOfT s cA (.object C) ∧ va_RA s cA (.object C) := by
  obtain ⟨comp, cA, kA, h1, h2, h3, h4, h5⟩ := Cond.arrayOver_spec h
  exact ⟨cA, fun n z => ⟨fun k h => (by cases h), kA, h3, comp, h4⟩, kA, comp, h3, h4, h1, h5⟩
def ma_six : List Nat := [246, 299, 300, 301, 309, 310, 311, 312, 313, 314, 334, 339, 348, 349, 354]
def ma_tm (i : Nat) : Term := .string RX3 (ma_stx.getD i (0, "")).1
abbrev ma_nar1 : List Jvm.Cond := flatC (Jvm.Cond.and given_1 narrow_1)
def ma_bs : List Nat := [23, 31, 40, 49, 60, 71, 86, 103, 118, 139, 156, 174, 191, 209, 230]
theorem ma_nar_at {c : Jvm.Cond} (i : Nat) (h : ma_nar1[i]? = some c) : c ∈ ma_nar1 := List.mem_of_getElem? h
theorem ma_s1 : ∀ i, i < 15 → ma_nar1[ma_bs.getD i 0]? = some (Jvm.Cond.exactly (ma_tm i) "java/lang/String") := by decide +kernel
theorem ma_s2 : ∀ i, i < 15 → ma_nar1[ma_bs.getD i 0 + 1]? = some (Jvm.Cond.eq (.field (ma_tm i) "java/lang/String" "coder" "B") (.int 0)) := by decide +kernel
theorem ma_s3 : ∀ i, i < 15 → ma_nar1[ma_bs.getD i 0 + 2]? = some (Jvm.Cond.arrayOf (.field (ma_tm i) "java/lang/String" "value" "[B") .byte) := by decide +kernel
theorem ma_s4 : ∀ i, i < 15 → ma_nar1[ma_bs.getD i 0 + 3]? = some (Jvm.Cond.eq (.length (.field (ma_tm i) "java/lang/String" "value" "[B")) (.int (Int32.ofNat (ma_lens.getD i 0)))) := by decide +kernel
theorem ma_s5 : ∀ i, i < 15 → ∀ j, j < ma_lens.getD i 0 → ma_nar1[ma_bs.getD i 0 + 4 + j]? = some (Jvm.Cond.eq (.elem (.field (ma_tm i) "java/lang/String" "value" "[B") (.int (Int32.ofNat j))) (.int ((ma_byts.getD i []).getD j 0))) := by decide +kernel
theorem ma_s6 : ∀ i, i < 15 → ∀ j, j < i → ma_nar1[ma_bs.getD i 0 + 4 + ma_lens.getD i 0 + j]? = some (Jvm.Cond.not (Jvm.Cond.eq (ma_tm j) (ma_tm i))) := by decide +kernel
theorem ma_s7 : ma_nar1[4]? = some (.eq (.static "java/lang/String" "COMPACT_STRINGS" "Z") (.int 1)) := by decide +kernel
theorem ma_s8 : ma_nar1[5]? = some (.isRef (.static "jdk/internal/util/Preconditions" "SIOOBE_FORMATTER" "Ljava/util/function/BiFunction;")) := by decide +kernel
set_option maxRecDepth 100000 in
set_option maxHeartbeats 4000000 in
/-- the surroundings at the law's entry -/
theorem ma_env {p : Program} {s : State} {m : MethodId} {meth : Method} {c : Code} {b L : Nat} {xs : Nat → Int32} (C0 : lw_At p s m meth c b L xs) : ∃ E : ma_E, e_lo E = s.heap.size ∧ e_bb E = b ∧ e_ll E = L ∧ e_xs E = xs ∧ ma_en E s s.heap := by
  obtain ⟨hx, hb, hr, hml, hown, hts, hX, hbl, hlocks, hgv⟩ := C0
  have hs : ∀ c ∈ ma_nar1, c.before #[Value.ref b] s = true := flat_of_before _ hgv
  have hA : ∀ a : Nat, a < s.heap.size → ¬ (fun q => s.heap.size ≤ q) a := fun a h => Nat.not_le.mpr h
  obtain ⟨y0, y0a, y0b⟩ := ma_cy (ty := .int) (hts _ (ma_tbw 85 (by decide +kernel))) (fun _ h => by cases h)
  obtain ⟨y1, y1a, y1b⟩ := ma_cy (ty := .byte) (hts _ (ma_tbw 113 (by decide +kernel))) (fun _ h => by cases h)
  obtain ⟨y2, y2a, y2b⟩ := ma_cy (ty := .long) (hts _ (ma_tbw 168 (by decide +kernel))) (fun _ h => by cases h)
  have ao1 : (Jvm.Cond.arrayOver (.object RX1)).before #[Value.ref b] s = true := hts _ (ma_tbw 115 (by decide +kernel))
  have ao2 : (Jvm.Cond.arrayOver (.object RX2)).before #[Value.ref b] s = true := hts _ (ma_tbw 117 (by decide +kernel))
  obtain ⟨y3, y3a, y3b⟩ := ma_co ao1
  obtain ⟨y4, y4a, y4b⟩ := ma_co ao2
  have hkn : ∀ ci, ci < 7 → ∃ (cC : ClassId) (iS : Nat → Nat), u_Kn s (ma_rx ci) (ma_tx ci) (ma_nf ci) cC iS := by
    intro ci hci
    have hin : ∀ w ∈ u_ws (ma_rx ci) (ma_tx ci) (ma_nf ci), w ∈ lw_tbl := fun w hw => (List.mem_filter.mp ((ma_cok_all ci hci).1.2.1 w hw)).1
    match ci, hci, hin with
    | 0, _, hin => exact u_known hts hin (hts (.instantiable RX0 6) (ma_tbw 119 (by decide +kernel)))
    | 1, _, hin => exact u_known hts hin (hts (.instantiable RX1 3) (ma_tbw 148 (by decide +kernel)))
    | 2, _, hin => exact u_known hts hin (hts (.instantiable RX2 3) (ma_tbw 169 (by decide +kernel)))
    | 3, _, hin => exact u_known hts hin (hts (.instantiable RX3 6) (ma_tbw 87 (by decide +kernel)))
    | 4, _, hin => exact u_known hts hin (hts (.instantiable RX4 12) (ma_tbw 24 (by decide +kernel)))
    | 5, _, hin => exact u_known hts hin (hts (.instantiable RX5 10) (ma_tbw 16 (by decide +kernel)))
    | 6, _, hin => exact u_known hts hin (hts (.instantiable RX6 27) (ma_tbw 728 (by decide +kernel)))
  have hD : ∃ D : va_G, ∀ (k : Nat) (q : vw_C), vwCl[k]? = some q → u_Kn s q.1 q.2.1 q.2.2 (D.1 k) (D.2 k) := by
    obtain ⟨c0, i0, n0⟩ := hkn 0 (by omega)
    obtain ⟨c1, i1, n1⟩ := hkn 1 (by omega)
    obtain ⟨c2, i2, n2⟩ := hkn 2 (by omega)
    obtain ⟨c3, i3, n3⟩ := hkn 3 (by omega)
    obtain ⟨c4, i4, n4⟩ := hkn 4 (by omega)
    obtain ⟨c5, i5, n5⟩ := hkn 5 (by omega)
    obtain ⟨c6, i6, n6⟩ := hkn 6 (by omega)
    refine ⟨(fun k => match k with | 0 => c0 | 1 => c1 | 2 => c2 | 3 => c3 | 4 => c4 | 5 => c5 | _ => c6, fun k => match k with | 0 => i0 | 1 => i1 | 2 => i2 | 3 => i3 | 4 => i4 | 5 => i5 | _ => i6), ?_⟩
    intro k q hq
    match k, hq with
    | 0, hq => cases hq; exact n0
    | 1, hq => cases hq; exact n1
    | 2, hq => cases hq; exact n2
    | 3, hq => cases hq; exact n3
    | 4, hq => cases hq; exact n4
    | 5, hq => cases hq; exact n5
    | 6, hq => cases hq; exact n6
    | k + 7, hq => simp [vwCl] at hq
  obtain ⟨D, hD⟩ := hD
  obtain ⟨ak, av, hS, hev⟩ := vk_Sof (args := #[Value.ref b]) (s := s) (N := 15) (tm := ma_tm) (len := ma_lens) (byt := ma_byts) (A := fun q => s.heap.size ≤ q) (by decide +kernel)
    (fun i hi => hs _ (ma_nar_at _ (ma_s1 i hi))) (fun i hi => hs _ (ma_nar_at _ (ma_s2 i hi))) (fun i hi => hs _ (ma_nar_at _ (ma_s3 i hi))) (fun i hi => hs _ (ma_nar_at _ (ma_s4 i hi))) (fun i hi j hj => hs _ (ma_nar_at _ (ma_s5 i hi j hj)))
    (fun i j hi hj hij => by
      rcases Nat.lt_or_gt_of_ne hij with h | h
      · exact Or.inl (hs _ (ma_nar_at _ (ma_s6 j hj i h)))
      · exact Or.inr (hs _ (ma_nar_at _ (ma_s6 i hi j h)))) hA
  have hcs : va_Z "java/lang/String" "COMPACT_STRINGS" "Z" (.int 1) (fun q => s.heap.size ≤ q) s s.heap :=
    va_Zof (args := #[Value.ref b]) (hts (.laysStatic "java/lang/String" "COMPACT_STRINGS" "Z") (ma_tbw 260 (by decide +kernel))) (hts (.initialized "java/lang/String") (ma_tbw 8 (by decide +kernel))) (va_eqt (hs _ (ma_nar_at _ ma_s7))) hA
  have hfm : ∃ q : Option Nat, va_Z "jdk/internal/util/Preconditions" "SIOOBE_FORMATTER" "Ljava/util/function/BiFunction;" (va_rf q) (fun q => s.heap.size ≤ q) s s.heap := by
    rcases va_Zqof (args := #[Value.ref b]) (hts (.laysStatic "jdk/internal/util/Preconditions" "SIOOBE_FORMATTER" "Ljava/util/function/BiFunction;") (ma_tbw 276 (by decide +kernel))) (hts (.initialized "jdk/internal/util/Preconditions") (ma_tbw 10 (by decide +kernel))) (hs _ (ma_nar_at _ ma_s8)) hA with h | ⟨t, h⟩
    · exact ⟨none, h⟩
    · exact ⟨some t, h⟩
  obtain ⟨fm, hfm⟩ := hfm
  refine ⟨(s.heap.size, ak, av, fm, D, fun k => match k with | 0 => y0 | 1 => y1 | 2 => y2 | 3 => y3 | _ => y4, b, L, xs), rfl, rfl, rfl, rfl, ⟨hD, ?_⟩, hX, hbl, ?_, ⟨va_AO.of ao1, va_AO.of ao2⟩, ?_, hS, hcs, hfm⟩
  · intro k q hq
    match k, hq with
    | 0, hq => cases hq; exact ⟨y0a, y0b⟩
    | 1, hq => cases hq; exact ⟨y1a, y1b⟩
    | 2, hq => cases hq; exact ⟨y2a, y2b⟩
    | 3, hq => cases hq; exact ⟨y3a, y3b⟩
    | 4, hq => cases hq; exact ⟨y4a, y4b⟩
    | k + 5, hq => cases hq
  · intro w hw
    have hmem : w ∈ lw_tbl := by
      simp only [ma_nws, List.mem_cons, List.not_mem_nil, or_false] at hw
      rcases hw with rfl | rfl | rfl | rfl | rfl | rfl | rfl
      · exact ma_tbw 88 (by decide +kernel)
      · exact ma_tbw 120 (by decide +kernel)
      · exact ma_tbw 149 (by decide +kernel)
      · exact ma_tbw 170 (by decide +kernel)
      · exact ma_tbw 319 (by decide +kernel)
      · exact ma_tbw 466 (by decide +kernel)
      · exact ma_tbw 694 (by decide +kernel)
    have hon : w.onTables = true := by
      simp only [ma_nws, List.mem_cons, List.not_mem_nil, or_false] at hw
      rcases hw with rfl | rfl | rfl | rfl | rfl | rfl | rfl <;> rfl
    exact va_Nw.of hon (hts w hmem)
  · intro i hi
    exact vk_R.of (A := #[Value.ref b]) (hts _ (ma_tbw (ma_six.getD i 0) ((by decide +kernel : ∀ i, i < 15 → tables_1[ma_six.getD i 0]? = some (.stringRef RX3 (ma_stx.getD i (0, "")).1 (ma_stx.getD i (0, "")).2)) i hi))) (hev i hi)
set_option maxRecDepth 100000 in
set_option maxHeartbeats 4000000 in
theorem whole_of_run (hg : ma_goal) {p : Program} {e : Env} {s : State} {m : MethodId} {below : List Frame} {meth : Method} {c : Code} (l : Launch) {b L : Nat} {xs : Nat → Int32} (hL : L ≤ 2560) (C0 : lw_At p s m meth c b L xs) : W p l e room_1 s m #[Value.ref b] below meth c s.heap [] 0 0 (lw_Z below #[Value.ref b] s) (entryFrame m ([Value.ref b] : List Value).toArray 4) := by
  obtain ⟨E, e1, e2, e3, e4, hen⟩ := ma_env C0
  obtain ⟨hx, hb, hr, hml, hown, hts, hX, hbl, hlocks, hgv⟩ := C0
  obtain ⟨n, w', hrun, hz1, hz2⟩ := hg L xs hL
  rw [← e3, ← e4] at hrun
  have hcx : ma_Cx E p room_1 s m #[Value.ref b] meth c cL_law 4 7 10 (yL_law.name == "<init>") :=
    ⟨hx, hb, hml, hown, fun w hw => hts w (List.mem_filter.mp hw).1, hen, by rw [e1]; exact Nat.le_refl _, Nat.le_of_ble_eq_true rfl, Nat.le_of_ble_eq_true rfl, fun h => by
      have : (yL_law.name == "<init>") = false := by decide +kernel
      rw [this] at h
      cases h⟩
  have hS := (ma_sim n 233 0 ma_law (ma_ent 4 [vS 1]) [] ma_w0 (some (vI 1)) w' ma_law_at hrun).2 (l := l) (e := e) (below := below) (Q := lw_Z below #[Value.ref b] s) (cells := 0) (slots := 0) hcx (by
      rw [Nat.zero_add]
      exact Nat.le_trans (Nat.sub_le _ _) hz1) (by
      rw [Nat.zero_add]
      exact Nat.le_trans (Nat.sub_le _ _) hz2) ?_
  · have h9 := hS s.heap [] _ ⟨⟨by rw [e1]; rfl, fun k x h => by cases h⟩, va_S.rf⟩ (ma_ent_Ls (E := E) (as := [vS 1]) (n := 4) (by decide))
    have e5 : ([vS 1] : List ma_V).map (ma_v E) = [Value.ref b] := by
      rw [List.map_cons, List.map_nil]
      show [ma_sp E 1] = _
      unfold ma_sp
      rw [if_neg (by decide), if_pos rfl, e2]
    rw [e5] at h9
    rw [lg_entry_eq]
    exact h9
  · intro k pc' st' H' locs' la' hk hd hret hI
    rcases ma_ret_cases hret with ⟨-, -, -, h⟩ | ⟨x, rfl, rfl, h, -⟩ | ⟨x, -, -, -, h⟩ | ⟨a, -, -, -, -, -, -, h⟩
    · cases h
    · cases h
      have h1 : ∀ q ∈ locs', s.heap.size ≤ q.base := fun q hq => by
        have := hI.2.2.2 q hq
        unfold ma_A at this
        rw [e1] at this
        exact this
      refine va_forget h1 ?_
      refine W.widen (k := 600000) (n := 7302249) (by rw [Nat.zero_add]; exact Nat.le_trans (Nat.sub_le _ _) hz1) (by rw [Nat.zero_add]; exact Nat.le_trans (Nat.sub_le _ _) hz2) ?_
      exact lw_ret hx hb hr hlocks hd
    · cases h
    · cases h
end
section
/-! ===== runs without fuel, and rows for them ===== -/
theorem ma_run_up {xs : Nat → Int32} {L : Nat} : ∀ (n m pc : Nat) (ls st : List ma_V) (w : ma_W) (r : Option ma_V × ma_W), ma_run xs L n m pc ls st w = some r → ma_run xs L (n + 1) m pc ls st w = some r
  | 0, m, pc, ls, st, w, r, h => by cases h
  | n + 1, m, pc, ls, st, w, r, h => by
    have ih := ma_run_up (xs := xs) (L := L) n
    unfold ma_run at h ⊢
    split at h
    · cases h
    · next t ht =>
      try rw [ht]
      try dsimp only
      split at h
      · cases h
      · next f hf =>
        try rw [hf]
        try dsimp only
        split at h
        · cases h
        · next c hc =>
          try rw [hc]
          exact ih _ _ _ _ _ _ h
      · next q hq =>
        try rw [hq]
        try dsimp only
        split at h
        · cases h
        · next r0 hr =>
          try rw [hr]
          try dsimp only
          split at h
          · cases h
          · next b hb =>
            try rw [ih _ _ _ _ _ _ hb]
            exact ih _ _ _ _ _ _ h
      · next k hk =>
        try rw [hk]
        try dsimp only
        split at h
        · cases h
        · next v hv =>
          try rw [hv]
          exact h
theorem ma_run_le {xs : Nat → Int32} {L : Nat} {n k m pc : Nat} {ls st : List ma_V} {w : ma_W} {r : Option ma_V × ma_W} (hk : n ≤ k) (h : ma_run xs L n m pc ls st w = some r) : ma_run xs L k m pc ls st w = some r := by
  induction hk with
  | refl => exact h
  | step _ ih => exact ma_run_up _ _ _ _ _ _ _ ih
theorem ma_run_det {xs : Nat → Int32} {L : Nat} {n k m pc : Nat} {ls st : List ma_V} {w : ma_W} {r r2 : Option ma_V × ma_W} (h : ma_run xs L n m pc ls st w = some r) (h2 : ma_run xs L k m pc ls st w = some r2) : r = r2 := by
  have a := ma_run_le (Nat.le_max_left n k) h
  have b := ma_run_le (Nat.le_max_right n k) h2
  exact Option.some.inj (a.symm.trans b)
/-- where a run comes to -/
noncomputable def rn (xs : Nat → Int32) (L m pc : Nat) (ls st : List ma_V) (w : ma_W) : Option (Option ma_V × ma_W) :=
  @dite _ (∃ r, ∃ n, ma_run xs L n m pc ls st w = some r) (Classical.propDecidable _) (fun h => some (Classical.choose h)) (fun _ => none)
section RN
variable {xs : Nat → Int32} {L m pc : Nat} {ls st : List ma_V} {w : ma_W}
theorem rn_of {n : Nat} {r : Option ma_V × ma_W} (h : ma_run xs L n m pc ls st w = some r) : rn xs L m pc ls st w = some r := by
  unfold rn
  have hx : ∃ r, ∃ n, ma_run xs L n m pc ls st w = some r := ⟨r, n, h⟩
  rw [dif_pos hx]
  obtain ⟨k, hk⟩ := Classical.choose_spec hx
  rw [ma_run_det h hk]
theorem rn_to {r : Option ma_V × ma_W} (h : rn xs L m pc ls st w = some r) : ∃ n, ma_run xs L n m pc ls st w = some r := by
  unfold rn at h
  by_cases hx : ∃ r, ∃ n, ma_run xs L n m pc ls st w = some r
  · rw [dif_pos hx] at h
    cases h
    exact Classical.choose_spec hx
  · rw [dif_neg hx] at h
    cases h
theorem rn_ext {m2 pc2 : Nat} {ls2 st2 : List ma_V} {w2 : ma_W} (h : ∀ r, (∃ n, ma_run xs L n m pc ls st w = some r) ↔ (∃ n, ma_run xs L n m2 pc2 ls2 st2 w2 = some r)) : rn xs L m pc ls st w = rn xs L m2 pc2 ls2 st2 w2 := by
  cases e : rn xs L m2 pc2 ls2 st2 w2 with
  | some r =>
    obtain ⟨n, hn⟩ := (h r).mpr (rn_to e)
    exact rn_of hn
  | none =>
    cases e1 : rn xs L m pc ls st w with
    | none => rfl
    | some r =>
      obtain ⟨n, hn⟩ := (h r).mp (rn_to e1)
      rw [rn_of hn] at e
      cases e
theorem pg_of {t : ma_M} {ins : Instr} {len : Nat} {i : ma_I} (ht : ma_mts m = some t) (hd : decode t.2.1 pc = .ok (ins, len)) (hs : ma_sem xs L t.1 t.2.2.2.2.2.1 (t.2.2.2.2.1.name == "<init>") pc ins len = some i) : ma_pg xs L m pc = some i ∧ ∃ t, ma_mts m = some t := by
  refine ⟨?_, t, ht⟩
  unfold ma_pg
  rw [ht]
  dsimp only
  rw [hd]
  exact hs
theorem rn_step {f : ma_F} {c : Nat × ma_C} (hp : ma_pg xs L m pc = some (.inl f) ∧ ∃ t, ma_mts m = some t) (hf : f (ls, st, w) = some c) : rn xs L m pc ls st w = rn xs L m c.1 c.2.1 c.2.2.1 c.2.2.2 := by
  obtain ⟨hp, t, ht⟩ := hp
  have key : ∀ n, ma_run xs L (n + 1) m pc ls st w = ma_run xs L n m c.1 c.2.1 c.2.2.1 c.2.2.2 := by
    intro n
    conv => lhs; unfold ma_run
    rw [ht]
    dsimp only
    rw [hp]
    dsimp only
    rw [hf]
  refine rn_ext (fun r => ⟨fun ⟨n, hn⟩ => ?_, fun ⟨n, hn⟩ => ⟨n + 1, by rw [key]; exact hn⟩⟩)
  match n, hn with
  | n + 1, hn => exact ⟨n, by rw [← key]; exact hn⟩
/-- what a method answers -/
noncomputable def ev (xs : Nat → Int32) (L m nL : Nat) (as : List ma_V) (w : ma_W) : Option (Option ma_V × ma_W) := rn xs L m 0 (ma_ent nL as) [] w
theorem rn_call {q : Nat × Nat × Nat × Nat × Nat} {t t2 : ma_M} {as rest : List ma_V} (hp : ma_pg xs L m pc = some (.inr (.inl q)) ∧ ∃ t, ma_mts m = some t) (ht : ma_mts m = some t) (hc : ma_call w t.2.2.2.2.2.1 q st = some (t2, as, rest)) :
    rn xs L m pc ls st w = (ev xs L q.2.2.1 t2.2.2.1 as w).bind (fun b => rn xs L m q.2.2.2.2 ls (b.1.toList ++ rest) b.2) := by
  obtain ⟨hp, -⟩ := hp
  have key : ∀ n, ma_run xs L (n + 1) m pc ls st w = match ma_run xs L n q.2.2.1 0 (ma_ent t2.2.2.1 as) [] w with
      | none => none
      | some b => ma_run xs L n m q.2.2.2.2 ls (b.1.toList ++ rest) b.2 := by
    intro n
    conv => lhs; unfold ma_run
    rw [ht]
    dsimp only
    rw [hp]
    dsimp only
    rw [hc]
    rfl
  unfold ev
  cases e : rn xs L q.2.2.1 0 (ma_ent t2.2.2.1 as) [] w with
  | none =>
    show _ = none
    cases e1 : rn xs L m pc ls st w with
    | none => rfl
    | some r =>
      obtain ⟨n, hn⟩ := rn_to e1
      match n, hn with
      | n + 1, hn =>
        rw [key] at hn
        split at hn
        · cases hn
        · next b hb => rw [rn_of hb] at e; cases e
  | some b =>
    show _ = rn xs L m q.2.2.2.2 ls (b.1.toList ++ rest) b.2
    obtain ⟨k, hk⟩ := rn_to e
    refine rn_ext (fun r => ⟨fun ⟨n, hn⟩ => ?_, fun ⟨n, hn⟩ => ⟨max k n + 1, ?_⟩⟩)
    · match n, hn with
      | n + 1, hn =>
        rw [key] at hn
        split at hn
        · cases hn
        · next b2 hb =>
          rw [ma_run_det hk hb]
          exact ⟨n, hn⟩
    · rw [key, ma_run_le (Nat.le_max_left k n) hk]
      exact ma_run_le (Nat.le_max_right k n) hn
theorem rn_ret {k : Nat} {t : ma_M} {v : Option ma_V} (hp : ma_pg xs L m pc = some (.inr (.inr k)) ∧ ∃ t, ma_mts m = some t) (ht : ma_mts m = some t) (hr : ma_ret k t.2.2.2.1 st = some v) : rn xs L m pc ls st w = some (v, w) := by
  refine rn_of (n := 1) ?_
  unfold ma_run
  rw [ht]
  dsimp only
  rw [hp.1]
  dsimp only
  rw [hr]
/-! rows -/
theorem r_ild {k n : Nat} {x : Int32} (hp : ma_pg xs L m pc = some (.inl (i_ild k n)) ∧ ∃ t, ma_mts m = some t) (hk : ls[k]? = some (vI x)) : rn xs L m pc ls st w = rn xs L m n ls (vI x :: st) w := rn_step (c := (n, ls, vI x :: st, w)) hp (by unfold i_ild; dsimp only; rw [hk])
theorem r_lld {k n : Nat} {x : Int64} (hp : ma_pg xs L m pc = some (.inl (i_lld k n)) ∧ ∃ t, ma_mts m = some t) (hk : ls[k]? = some (vL x)) : rn xs L m pc ls st w = rn xs L m n ls (vL x :: st) w := rn_step (c := (n, ls, vL x :: st, w)) hp (by unfold i_lld; dsimp only; rw [hk])
theorem r_ald {k n a : Nat} (hp : ma_pg xs L m pc = some (.inl (i_ald k n)) ∧ ∃ t, ma_mts m = some t) (hk : ls[k]? = some (vR a)) : rn xs L m pc ls st w = rn xs L m n ls (vR a :: st) w := rn_step (c := (n, ls, vR a :: st, w)) hp (by unfold i_ald; dsimp only; rw [hk])
theorem r_als {k n a : Nat} (hp : ma_pg xs L m pc = some (.inl (i_ald k n)) ∧ ∃ t, ma_mts m = some t) (ha : a = 1 ∨ 3 ≤ a) (hk : ls[k]? = some (vS a)) : rn xs L m pc ls st w = rn xs L m n ls (vS a :: st) w := rn_step (c := (n, ls, vS a :: st, w)) hp (by unfold i_ald; dsimp only; rw [hk]; dsimp only; rw [if_pos ha])
theorem r_ist {k n : Nat} {x : Int32} {ls2 : List ma_V} (hp : ma_pg xs L m pc = some (.inl (i_ist k n)) ∧ ∃ t, ma_mts m = some t) (hk : k < ls.length) (h : (ma_kill ls k).set k (vI x) = ls2) : rn xs L m pc ls (vI x :: st) w = rn xs L m n ls2 st w := rn_step (c := (n, ls2, st, w)) hp (by unfold i_ist; dsimp only; rw [if_pos hk, h])
theorem r_lst {k n : Nat} {x : Int64} {ls2 : List ma_V} (hp : ma_pg xs L m pc = some (.inl (i_lst k n)) ∧ ∃ t, ma_mts m = some t) (hk : k + 1 < ls.length) (h : ((ma_kill ls k).set k (vL x)).set (k + 1) (vS 0) = ls2) : rn xs L m pc ls (vL x :: st) w = rn xs L m n ls2 st w := rn_step (c := (n, ls2, st, w)) hp (by unfold i_lst; dsimp only; rw [if_pos hk, h])
theorem r_ast {k n a : Nat} {ls2 : List ma_V} (hp : ma_pg xs L m pc = some (.inl (i_ast k n)) ∧ ∃ t, ma_mts m = some t) (hk : k < ls.length) (h : (ma_kill ls k).set k (vR a) = ls2) : rn xs L m pc ls (vR a :: st) w = rn xs L m n ls2 st w := rn_step (c := (n, ls2, st, w)) hp (by unfold i_ast; dsimp only; rw [if_pos hk, h])
theorem r_inc {k n : Nat} {d : Int} {x y : Int32} {ls2 : List ma_V} (hp : ma_pg xs L m pc = some (.inl (i_inc k d n)) ∧ ∃ t, ma_mts m = some t) (hd : Int32.ofInt d = y) (hk : ls[k]? = some (vI x)) (h : (ma_kill ls k).set k (vI (x + y)) = ls2) : rn xs L m pc ls st w = rn xs L m n ls2 st w := rn_step (c := (n, ls2, st, w)) hp (by unfold i_inc; dsimp only; rw [hk]; dsimp only; rw [hd, h])
theorem r_con {n : Nat} {v v2 : Int32} (hp : ma_pg xs L m pc = some (.inl (i_con v n)) ∧ ∃ t, ma_mts m = some t) (hv : v = v2) : rn xs L m pc ls st w = rn xs L m n ls (vI v2 :: st) w := rn_step (c := (n, ls, vI v2 :: st, w)) hp (by rw [hv]; rfl)
theorem r_lcn {n : Nat} {v v2 : Int64} (hp : ma_pg xs L m pc = some (.inl (i_lcn v n)) ∧ ∃ t, ma_mts m = some t) (hv : v = v2) : rn xs L m pc ls st w = rn xs L m n ls (vL v2 :: st) w := rn_step (c := (n, ls, vL v2 :: st, w)) hp (by rw [hv]; rfl)
theorem r_spc {n k : Nat} (hp : ma_pg xs L m pc = some (.inl (i_spc k n)) ∧ ∃ t, ma_mts m = some t) : rn xs L m pc ls st w = rn xs L m n ls (vS k :: st) w := rn_step (c := (n, ls, vS k :: st, w)) hp rfl
theorem r_bin {F : Int32 → Int32 → Int32} {n : Nat} {x y : Int32} (hp : ma_pg xs L m pc = some (.inl (i_bin F n)) ∧ ∃ t, ma_mts m = some t) : rn xs L m pc ls (vI y :: vI x :: st) w = rn xs L m n ls (vI (F x y) :: st) w := rn_step (c := (n, ls, vI (F x y) :: st, w)) hp rfl
theorem r_lim {F : Int32 → Int32 → Int32} {n : Nat} {x y : Int32} (hp : ma_pg xs L m pc = some (.inl (i_lim 2 (i_bin F n))) ∧ ∃ t, ma_mts m = some t) (h : (st.map ma_cat).sum ≤ 8) : rn xs L m pc ls (vI y :: vI x :: st) w = rn xs L m n ls (vI (F x y) :: st) w := rn_step (c := (n, ls, vI (F x y) :: st, w)) hp (by
  have h' : ((List.drop 2 (vI y :: vI x :: st)).map ma_cat).sum ≤ 8 := h
  unfold i_lim
  dsimp only
  rw [if_pos h']
  rfl)
theorem r_dvi {F : Int32 → Int32 → Int32} {n : Nat} {x y : Int32} (hp : ma_pg xs L m pc = some (.inl (i_dvi F n)) ∧ ∃ t, ma_mts m = some t) (hy : ¬ y = 0) : rn xs L m pc ls (vI y :: vI x :: st) w = rn xs L m n ls (vI (F x y) :: st) w := rn_step (c := (n, ls, vI (F x y) :: st, w)) hp (by unfold i_dvi; dsimp only; rw [if_neg hy])
theorem r_lbn {F : Int64 → Int64 → Int64} {n : Nat} {x y : Int64} (hp : ma_pg xs L m pc = some (.inl (i_lbn F n)) ∧ ∃ t, ma_mts m = some t) : rn xs L m pc ls (vL y :: vL x :: st) w = rn xs L m n ls (vL (F x y) :: st) w := rn_step (c := (n, ls, vL (F x y) :: st, w)) hp rfl
theorem r_ldv {F : Int64 → Int64 → Int64} {n : Nat} {x y : Int64} (hp : ma_pg xs L m pc = some (.inl (i_ldv F n)) ∧ ∃ t, ma_mts m = some t) (hy : ¬ y = 0) : rn xs L m pc ls (vL y :: vL x :: st) w = rn xs L m n ls (vL (F x y) :: st) w := rn_step (c := (n, ls, vL (F x y) :: st, w)) hp (by unfold i_ldv; dsimp only; rw [if_neg hy])
theorem r_lsh {F : Int64 → Int32 → Int64} {n : Nat} {x : Int64} {y : Int32} (hp : ma_pg xs L m pc = some (.inl (i_lsh F n)) ∧ ∃ t, ma_mts m = some t) : rn xs L m pc ls (vI y :: vL x :: st) w = rn xs L m n ls (vL (F x y) :: st) w := rn_step (c := (n, ls, vL (F x y) :: st, w)) hp rfl
theorem r_lcp {n : Nat} {x y : Int64} (hp : ma_pg xs L m pc = some (.inl (i_lcp n)) ∧ ∃ t, ma_mts m = some t) : rn xs L m pc ls (vL y :: vL x :: st) w = rn xs L m n ls (vI (lg_cmp x y) :: st) w := rn_step (c := (n, ls, vI (lg_cmp x y) :: st, w)) hp rfl
theorem r_una {F : Int32 → Int32} {n : Nat} {x : Int32} (hp : ma_pg xs L m pc = some (.inl (i_una F n)) ∧ ∃ t, ma_mts m = some t) : rn xs L m pc ls (vI x :: st) w = rn xs L m n ls (vI (F x) :: st) w := rn_step (c := (n, ls, vI (F x) :: st, w)) hp rfl
theorem r_i2l {n : Nat} {x : Int32} (hp : ma_pg xs L m pc = some (.inl (i_i2l n)) ∧ ∃ t, ma_mts m = some t) : rn xs L m pc ls (vI x :: st) w = rn xs L m n ls (vL x.toInt64 :: st) w := rn_step (c := (n, ls, vL x.toInt64 :: st, w)) hp rfl
theorem r_l2i {n : Nat} {x : Int64} (hp : ma_pg xs L m pc = some (.inl (i_l2i n)) ∧ ∃ t, ma_mts m = some t) : rn xs L m pc ls (vL x :: st) w = rn xs L m n ls (vI x.toInt32 :: st) w := rn_step (c := (n, ls, vI x.toInt32 :: st, w)) hp rfl
theorem r_dup {n : Nat} {v : ma_V} (hp : ma_pg xs L m pc = some (.inl (i_dup n)) ∧ ∃ t, ma_mts m = some t) (h : ma_c1 v = true) : rn xs L m pc ls (v :: st) w = rn xs L m n ls (v :: v :: st) w := rn_step (c := (n, ls, v :: v :: st, w)) hp (by unfold i_dup; dsimp only; rw [if_pos h])
theorem r_pop {n : Nat} {v : ma_V} (hp : ma_pg xs L m pc = some (.inl (i_pop n)) ∧ ∃ t, ma_mts m = some t) (h : ma_c1 v = true) : rn xs L m pc ls (v :: st) w = rn xs L m n ls st w := rn_step (c := (n, ls, st, w)) hp (by unfold i_pop; dsimp only; rw [if_pos h])
theorem r_du2 {n : Nat} {v u : ma_V} (hp : ma_pg xs L m pc = some (.inl (i_du2 n)) ∧ ∃ t, ma_mts m = some t) (h : (ma_c1 v && ma_c1 u) = true) : rn xs L m pc ls (v :: u :: st) w = rn xs L m n ls (v :: u :: v :: u :: st) w := rn_step (c := (n, ls, v :: u :: v :: u :: st, w)) hp (by unfold i_du2; dsimp only; rw [if_pos h])
theorem r_gto {n : Nat} (hp : ma_pg xs L m pc = some (.inl (i_gto n)) ∧ ∃ t, ma_mts m = some t) : rn xs L m pc ls st w = rn xs L m n ls st w := rn_step (c := (n, ls, st, w)) hp rfl
theorem r_if2 {p : Int32 → Int32 → Bool} {t n : Nat} {x y : Int32} {c : Prop} [Decidable c] (hp : ma_pg xs L m pc = some (.inl (i_if2 p t n)) ∧ ∃ t, ma_mts m = some t) (hc : p x y = decide c) : rn xs L m pc ls (vI y :: vI x :: st) w = if c then rn xs L m t ls st w else rn xs L m n ls st w := by
  rw [rn_step (c := (if p x y then t else n, ls, st, w)) hp rfl, hc]
  by_cases h : c
  · simp [h]
  · simp [h]
theorem r_if1 {p : Int32 → Bool} {t n : Nat} {x : Int32} {c : Prop} [Decidable c] (hp : ma_pg xs L m pc = some (.inl (i_if1 p t n)) ∧ ∃ t, ma_mts m = some t) (hc : p x = decide c) : rn xs L m pc ls (vI x :: st) w = if c then rn xs L m t ls st w else rn xs L m n ls st w := by
  rw [rn_step (c := (if p x then t else n, ls, st, w)) hp rfl, hc]
  by_cases h : c
  · simp [h]
  · simp [h]
theorem r_swi {g : Int32 → Option Nat} {x : Int32} {t : Nat} (hp : ma_pg xs L m pc = some (.inl (i_swi g)) ∧ ∃ t, ma_mts m = some t) (h : g x = some t) : rn xs L m pc ls (vI x :: st) w = rn xs L m t ls st w := rn_step (c := (t, ls, st, w)) hp (by unfold i_swi; dsimp only; rw [h])
theorem r_gti {ci k n o : Nat} (hp : ma_pg xs L m pc = some (.inl (i_gti ci k n)) ∧ ∃ t, ma_mts m = some t) (ho : (ma_sh w)[o]? = some (.inl ci)) : rn xs L m pc ls (vR o :: st) w = rn xs L m n ls (vI (ma_fi w o k) :: st) w := rn_step (c := (n, ls, vI (ma_fi w o k) :: st, w)) hp (by unfold i_gti; dsimp only; rw [if_pos ho])
theorem r_gtr {ci k n o a : Nat} (hp : ma_pg xs L m pc = some (.inl (i_gtr ci k n)) ∧ ∃ t, ma_mts m = some t) (ho : (ma_sh w)[o]? = some (.inl ci)) (ha : ma_fr w o k = some a) : rn xs L m pc ls (vR o :: st) w = rn xs L m n ls (vR a :: st) w := rn_step (c := (n, ls, vR a :: st, w)) hp (by unfold i_gtr; dsimp only; rw [if_pos ho, ha])
theorem r_pti {ci k n o : Nat} {x : Int32} (hp : ma_pg xs L m pc = some (.inl (i_pti ci k n)) ∧ ∃ t, ma_mts m = some t) (ho : (ma_sh w)[o]? = some (.inl ci)) (hn : ma_nar (ma_ty ci k) x = true) : rn xs L m pc ls (vI x :: vR o :: st) w = rn xs L m n ls st (pu_fi w o k x) := rn_step (c := (n, ls, st, pu_fi w o k x)) hp (by unfold i_pti; dsimp only; rw [if_pos ⟨ho, hn⟩])
theorem ma_ok_of {a t n : Nat} {i : Int32} (h1 : (ma_sh w)[a]? = some (.inr (t, n))) (h2 : ma_in i n = true) : ma_ok w a t i = true := by
  unfold ma_ok
  rw [h1]
  dsimp only
  rw [h2]
  simp
theorem r_iald {n a N : Nat} {i : Int32} (hp : ma_pg xs L m pc = some (.inl (i_iald n)) ∧ ∃ t, ma_mts m = some t) (h1 : (ma_sh w)[a]? = some (.inr (0, N))) (h2 : ma_in i N = true) : rn xs L m pc ls (vI i :: vR a :: st) w = rn xs L m n ls (vI (ma_ai w a i.toNatClampNeg) :: st) w := rn_step (c := (n, ls, vI (ma_ai w a i.toNatClampNeg) :: st, w)) hp (by unfold i_iald; dsimp only; rw [if_pos (ma_ok_of h1 h2)])
theorem r_bald {n a N : Nat} {i : Int32} (hp : ma_pg xs L m pc = some (.inl (i_bald n)) ∧ ∃ t, ma_mts m = some t) (h1 : (ma_sh w)[a]? = some (.inr (1, N))) (h2 : ma_in i N = true) : rn xs L m pc ls (vI i :: vR a :: st) w = rn xs L m n ls (vI (ma_ai w a i.toNatClampNeg) :: st) w := rn_step (c := (n, ls, vI (ma_ai w a i.toNatClampNeg) :: st, w)) hp (by unfold i_bald; dsimp only; rw [if_pos (ma_ok_of h1 h2)])
theorem r_lald {n a N : Nat} {i : Int32} (hp : ma_pg xs L m pc = some (.inl (i_lald n)) ∧ ∃ t, ma_mts m = some t) (h1 : (ma_sh w)[a]? = some (.inr (2, N))) (h2 : ma_in i N = true) : rn xs L m pc ls (vI i :: vR a :: st) w = rn xs L m n ls (vL (ma_al w a i.toNatClampNeg) :: st) w := rn_step (c := (n, ls, vL (ma_al w a i.toNatClampNeg) :: st, w)) hp (by unfold i_lald; dsimp only; rw [if_pos (ma_ok_of h1 h2)])
theorem r_aald {n a t N b : Nat} {i : Int32} (hp : ma_pg xs L m pc = some (.inl (i_aald n)) ∧ ∃ t, ma_mts m = some t) (ht : t = 3 ∨ t = 4) (h1 : (ma_sh w)[a]? = some (.inr (t, N))) (h2 : ma_in i N = true) (h3 : ma_ar w a i.toNatClampNeg = some b) : rn xs L m pc ls (vI i :: vR a :: st) w = rn xs L m n ls (vR b :: st) w := rn_step (c := (n, ls, vR b :: st, w)) hp (by
  unfold i_aald
  dsimp only
  rw [if_pos (by rcases ht with rfl | rfl <;> rw [ma_ok_of h1 h2] <;> simp), h3])
theorem r_iast {n a N : Nat} {i x : Int32} (hp : ma_pg xs L m pc = some (.inl (i_iast n)) ∧ ∃ t, ma_mts m = some t) (h1 : (ma_sh w)[a]? = some (.inr (0, N))) (h2 : ma_in i N = true) : rn xs L m pc ls (vI x :: vI i :: vR a :: st) w = rn xs L m n ls st (pu_ai w a i.toNatClampNeg x) := rn_step (c := (n, ls, st, pu_ai w a i.toNatClampNeg x)) hp (by unfold i_iast; dsimp only; rw [if_pos (ma_ok_of h1 h2)])
theorem r_bast {n a N : Nat} {i x : Int32} (hp : ma_pg xs L m pc = some (.inl (i_bast n)) ∧ ∃ t, ma_mts m = some t) (h1 : (ma_sh w)[a]? = some (.inr (1, N))) (h2 : ma_in i N = true) : rn xs L m pc ls (vI x :: vI i :: vR a :: st) w = rn xs L m n ls st (pu_ai w a i.toNatClampNeg (vp_nar .byte x)) := rn_step (c := (n, ls, st, pu_ai w a i.toNatClampNeg (vp_nar .byte x))) hp (by unfold i_bast; dsimp only; rw [if_pos (ma_ok_of h1 h2)])
theorem r_last {n a N : Nat} {i : Int32} {x : Int64} (hp : ma_pg xs L m pc = some (.inl (i_last n)) ∧ ∃ t, ma_mts m = some t) (h1 : (ma_sh w)[a]? = some (.inr (2, N))) (h2 : ma_in i N = true) : rn xs L m pc ls (vL x :: vI i :: vR a :: st) w = rn xs L m n ls st (pu_al w a i.toNatClampNeg x) := rn_step (c := (n, ls, st, pu_al w a i.toNatClampNeg x)) hp (by unfold i_last; dsimp only; rw [if_pos (ma_ok_of h1 h2)])
theorem r_cpy {n a a0 N N0 : Nat} {sp dp z : Int32} (hp : ma_pg xs L m pc = some (.inl (i_lim 5 (i_cpy n))) ∧ ∃ t, ma_mts m = some t) (hl : (st.map ma_cat).sum ≤ 8) (h1 : (ma_sh w)[a]? = some (.inr (0, N))) (h0 : (ma_sh w)[a0]? = some (.inr (0, N0))) (hb : ¬ sp < 0 ∧ ¬ dp < 0 ∧ ¬ z < 0 ∧ sp.toNatClampNeg + z.toNatClampNeg ≤ N0 ∧ dp.toNatClampNeg + z.toNatClampNeg ≤ N) :
    rn xs L m pc ls (vI z :: vI dp :: vR a :: vI sp :: vR a0 :: st) w = rn xs L m n ls st (pu_ax w a (va_cpy (ma_ai w a0) (ma_ai w a) sp.toNatClampNeg dp.toNatClampNeg z.toNatClampNeg)) := rn_step (c := (n, ls, st, _)) hp (by
  have hl' : ((List.drop 5 (vI z :: vI dp :: vR a :: vI sp :: vR a0 :: st)).map ma_cat).sum ≤ 8 := hl
  unfold i_lim
  dsimp only
  rw [if_pos hl']
  unfold i_cpy
  dsimp only
  rw [h1, h0]
  dsimp only
  rw [if_pos ⟨rfl, rfl, hb⟩]
  rfl)
theorem r_sld {n : Nat} {i : Int32} (hp : ma_pg xs L m pc = some (.inl (i_sld xs L n)) ∧ ∃ t, ma_mts m = some t) (h : ma_in i L = true) : rn xs L m pc ls (vI i :: vS 1 :: st) w = rn xs L m n ls (vI (xs i.toNatClampNeg) :: st) w := rn_step (c := (n, ls, vI (xs i.toNatClampNeg) :: st, w)) hp (by
  show (if ma_in i L = true then some (n, ls, vI (xs i.toNatClampNeg) :: st, w) else none) = _
  rw [if_pos h])
theorem r_sln {n : Nat} (hp : ma_pg xs L m pc = some (.inl (i_sln L n)) ∧ ∃ t, ma_mts m = some t) : rn xs L m pc ls (vS 1 :: st) w = rn xs L m n ls (vI (Int32.ofNat L) :: st) w := rn_step (c := (n, ls, vI (Int32.ofNat L) :: st, w)) hp rfl
theorem r_balS {n a : Nat} {i : Int32} (hp : ma_pg xs L m pc = some (.inl (i_bald n)) ∧ ∃ t, ma_mts m = some t) (h : 3 ≤ a ∧ a < 33 ∧ a % 2 = 0 ∧ ma_in i (ma_len ((a - 4) / 2)) = true) : rn xs L m pc ls (vI i :: vS a :: st) w = rn xs L m n ls (vI (ma_chr ((a - 4) / 2) i.toNatClampNeg) :: st) w := rn_step (c := (n, ls, vI (ma_chr ((a - 4) / 2) i.toNatClampNeg) :: st, w)) hp (by unfold i_bald; dsimp only; rw [if_pos h])
theorem r_alnS {n a : Nat} (hp : ma_pg xs L m pc = some (.inl (i_alen n)) ∧ ∃ t, ma_mts m = some t) (h : 3 ≤ a ∧ a < 33 ∧ a % 2 = 0) : rn xs L m pc ls (vS a :: st) w = rn xs L m n ls (vI (Int32.ofNat (ma_len ((a - 4) / 2))) :: st) w := rn_step (c := (n, ls, vI (Int32.ofNat (ma_len ((a - 4) / 2))) :: st, w)) hp (by unfold i_alen; dsimp only; rw [if_pos h])
theorem r_gts0 {n a : Nat} (hp : ma_pg xs L m pc = some (.inl (i_gts 0 n)) ∧ ∃ t, ma_mts m = some t) (h : 3 ≤ a ∧ a < 33 ∧ a % 2 = 1) : rn xs L m pc ls (vS a :: st) w = rn xs L m n ls (vS (a + 1) :: st) w := rn_step (c := (n, ls, vS (a + 1) :: st, w)) hp (by unfold i_gts; dsimp only; rw [if_pos h]; rfl)
theorem r_gts1 {n a : Nat} (hp : ma_pg xs L m pc = some (.inl (i_gts 1 n)) ∧ ∃ t, ma_mts m = some t) (h : 3 ≤ a ∧ a < 33 ∧ a % 2 = 1) : rn xs L m pc ls (vS a :: st) w = rn xs L m n ls (vI 0 :: st) w := rn_step (c := (n, ls, vI 0 :: st, w)) hp (by unfold i_gts; dsimp only; rw [if_pos h]; rfl)
end RN
end
section
/-! ===== the world as it is once all is made: constant shapes, constant references ===== -/
def SH : List ma_Sh := [.inl 5,
  .inl 4, .inr (0, 4), .inr (0, 6), .inr (0, 8), .inr (0, 8), .inr (0, 8), .inr (0, 8), .inr (0, 8),
  .inl 4, .inr (0, 4), .inr (0, 6), .inr (0, 8), .inr (0, 8), .inr (0, 8), .inr (0, 8), .inr (0, 8),
  .inl 4, .inr (0, 4), .inr (0, 6), .inr (0, 8), .inr (0, 8), .inr (0, 8), .inr (0, 8), .inr (0, 8),
  .inl 3, .inr (1, 200), .inr (0, 30), .inr (3, 4), .inr (4, 4), .inl 0, .inr (0, 30),
  .inl 1, .inr (2, 40), .inl 1, .inr (2, 40), .inl 1, .inr (2, 40), .inl 1, .inr (2, 40),
  .inl 2, .inl 2, .inl 2, .inl 2,
  .inl 6, .inr (0, 62), .inr (0, 62), .inr (0, 62), .inr (0, 62), .inr (0, 200), .inr (0, 8), .inr (0, 30), .inr (0, 4), .inr (0, 4), .inr (0, 160), .inr (0, 4), .inr (0, 4), .inr (0, 4), .inr (0, 30)]
def FR (o k : Nat) : Option Nat := match o with
  | 0 => match k with | 0 => some 1 | 1 => some 9 | 2 => some 17 | 4 => some 25 | 5 => some 27 | 7 => some 28 | 8 => some 29 | 9 => some 30 | _ => none
  | 1 => if k < 7 then some (2 + k) else none
  | 9 => if k < 7 then some (10 + k) else none
  | 17 => if k < 7 then some (18 + k) else none
  | 25 => if k = 0 then some 26 else none
  | 30 => if k = 3 then some 31 else none
  | 32 => if k = 0 then some 33 else none
  | 34 => if k = 0 then some 35 else none
  | 36 => if k = 0 then some 37 else none
  | 38 => if k = 0 then some 39 else none
  | 44 => match k with | 0 => some 45 | 1 => some 46 | 2 => some 47 | 3 => some 48 | 5 => some 49 | 12 => some 50 | 13 => some 51 | 15 => some 52 | 16 => some 53 | 17 => some 54 | 18 => some 55 | 19 => some 56 | 20 => some 57 | 21 => some 58 | _ => none
  | _ => none
def AR (a i : Nat) : Option Nat := match a with
  | 28 => if i < 4 then some (32 + 2 * i) else none
  | 29 => if i < 4 then some (40 + i) else none
  | _ => none
/-- the world with these fields, ints, longs -/
def mw (f : Nat → Nat → Int32) (a : Nat → Nat → Int32) (g : Nat → Nat → Int64) : ma_W := (SH, f, FR, a, g, AR)
/-- a tree; a sheet; a shelf -/
def is_tr (t : Nat) : Prop := t = 1 ∨ t = 9 ∨ t = 17
def is_sh (q : Nat) : Prop := q = 32 ∨ q = 34 ∨ q = 36 ∨ q = 38
def is_sf (q : Nat) : Prop := q = 40 ∨ q = 41 ∨ q = 42 ∨ q = 43
section MW
variable {f a : Nat → Nat → Int32} {g : Nat → Nat → Int64}
theorem mw_tr {t : Nat} (h : is_tr t) : (ma_sh (mw f a g))[t]? = some (.inl 4) := by rcases h with rfl | rfl | rfl <;> rfl
theorem mw_tr0 {t : Nat} (h : is_tr t) : (ma_sh (mw f a g))[t + 1]? = some (.inr (0, 4)) := by rcases h with rfl | rfl | rfl <;> rfl
theorem mw_tr1 {t : Nat} (h : is_tr t) : (ma_sh (mw f a g))[t + 2]? = some (.inr (0, 6)) := by rcases h with rfl | rfl | rfl <;> rfl
theorem mw_tr2 {t : Nat} (h : is_tr t) : (ma_sh (mw f a g))[t + 3]? = some (.inr (0, 8)) := by rcases h with rfl | rfl | rfl <;> rfl
theorem mw_tr3 {t : Nat} (h : is_tr t) : (ma_sh (mw f a g))[t + 4]? = some (.inr (0, 8)) := by rcases h with rfl | rfl | rfl <;> rfl
theorem mw_tr4 {t : Nat} (h : is_tr t) : (ma_sh (mw f a g))[t + 5]? = some (.inr (0, 8)) := by rcases h with rfl | rfl | rfl <;> rfl
theorem mw_tr5 {t : Nat} (h : is_tr t) : (ma_sh (mw f a g))[t + 6]? = some (.inr (0, 8)) := by rcases h with rfl | rfl | rfl <;> rfl
theorem mw_tr6 {t : Nat} (h : is_tr t) : (ma_sh (mw f a g))[t + 7]? = some (.inr (0, 8)) := by rcases h with rfl | rfl | rfl <;> rfl
theorem mw_tf {t k : Nat} (h : is_tr t) (hk : k < 7) : ma_fr (mw f a g) t k = some (t + 1 + k) := by
  rcases h with rfl | rfl | rfl
  · show (if k < 7 then some (2 + k) else none) = _; rw [if_pos hk]
  · show (if k < 7 then some (10 + k) else none) = _; rw [if_pos hk]
  · show (if k < 7 then some (18 + k) else none) = _; rw [if_pos hk]
theorem mw_sh {q : Nat} (h : is_sh q) : (ma_sh (mw f a g))[q]? = some (.inl 1) := by rcases h with rfl | rfl | rfl | rfl <;> rfl
theorem mw_sh0 {q : Nat} (h : is_sh q) : (ma_sh (mw f a g))[q + 1]? = some (.inr (2, 40)) := by rcases h with rfl | rfl | rfl | rfl <;> rfl
theorem mw_shf {q : Nat} (h : is_sh q) : ma_fr (mw f a g) q 0 = some (q + 1) := by rcases h with rfl | rfl | rfl | rfl <;> rfl
theorem mw_sf {q : Nat} (h : is_sf q) : (ma_sh (mw f a g))[q]? = some (.inl 2) := by rcases h with rfl | rfl | rfl | rfl <;> rfl
theorem ma_in_lt {i : Int32} {n : Nat} (h : ma_in i n = true) : i.toNatClampNeg < n := by
  unfold ma_in at h
  rw [Bool.and_eq_true, decide_eq_true_eq] at h
  exact h.2
theorem mw_a28 {i : Int32} (h : ma_in i 4 = true) : ma_ar (mw f a g) 28 i.toNatClampNeg = some (32 + 2 * i.toNatClampNeg) := by
  show (if i.toNatClampNeg < 4 then some (32 + 2 * i.toNatClampNeg) else none) = _
  rw [if_pos (ma_in_lt h)]
theorem mw_a29 {i : Int32} (h : ma_in i 4 = true) : ma_ar (mw f a g) 29 i.toNatClampNeg = some (40 + i.toNatClampNeg) := by
  show (if i.toNatClampNeg < 4 then some (40 + i.toNatClampNeg) else none) = _
  rw [if_pos (ma_in_lt h)]
theorem sh_of {i : Int32} (h : ma_in i 4 = true) : is_sh (32 + 2 * i.toNatClampNeg) := by
  have := ma_in_lt h
  unfold is_sh
  omega
theorem sf_of {i : Int32} (h : ma_in i 4 = true) : is_sf (40 + i.toNatClampNeg) := by
  have := ma_in_lt h
  unfold is_sf
  omega
end MW
end
section
/-! ===== more rows: compares in two forms (=, <), calls, answers ===== -/
section R23
variable {xs : Nat → Int32} {L m pc : Nat} {ls st : List ma_V} {w : ma_W} {t n : Nat} {x y : Int32}
theorem r_eq (hp : ma_pg xs L m pc = some (.inl (i_if2 (ma_cmp .eq) t n)) ∧ ∃ t, ma_mts m = some t) : rn xs L m pc ls (vI y :: vI x :: st) w = if x = y then rn xs L m t ls st w else rn xs L m n ls st w := r_if2 hp rfl
theorem r_ne (hp : ma_pg xs L m pc = some (.inl (i_if2 (ma_cmp .ne) t n)) ∧ ∃ t, ma_mts m = some t) : rn xs L m pc ls (vI y :: vI x :: st) w = if x = y then rn xs L m n ls st w else rn xs L m t ls st w := by
  rw [r_if2 (c := ¬ x = y) hp rfl]
  by_cases h : x = y <;> simp [h]
theorem r_lt (hp : ma_pg xs L m pc = some (.inl (i_if2 (ma_cmp .lt) t n)) ∧ ∃ t, ma_mts m = some t) : rn xs L m pc ls (vI y :: vI x :: st) w = if x < y then rn xs L m t ls st w else rn xs L m n ls st w := r_if2 hp rfl
theorem r_ge (hp : ma_pg xs L m pc = some (.inl (i_if2 (ma_cmp .ge) t n)) ∧ ∃ t, ma_mts m = some t) : rn xs L m pc ls (vI y :: vI x :: st) w = if x < y then rn xs L m n ls st w else rn xs L m t ls st w := by
  rw [r_if2 (c := y ≤ x) hp rfl]
  by_cases h : x < y
  · rw [if_pos h, if_neg (Int32.not_le.mpr h)]
  · rw [if_neg h, if_pos (Int32.not_lt.mp h)]
theorem r_gt (hp : ma_pg xs L m pc = some (.inl (i_if2 (ma_cmp .gt) t n)) ∧ ∃ t, ma_mts m = some t) : rn xs L m pc ls (vI y :: vI x :: st) w = if y < x then rn xs L m t ls st w else rn xs L m n ls st w := r_if2 hp rfl
theorem r_le (hp : ma_pg xs L m pc = some (.inl (i_if2 (ma_cmp .le) t n)) ∧ ∃ t, ma_mts m = some t) : rn xs L m pc ls (vI y :: vI x :: st) w = if y < x then rn xs L m n ls st w else rn xs L m t ls st w := by
  rw [r_if2 (c := x ≤ y) hp rfl]
  by_cases h : y < x
  · rw [if_pos h, if_neg (Int32.not_le.mpr h)]
  · rw [if_neg h, if_pos (Int32.not_lt.mp h)]
theorem r_eq0 (hp : ma_pg xs L m pc = some (.inl (i_if1 (ma_cm0 .eq) t n)) ∧ ∃ t, ma_mts m = some t) : rn xs L m pc ls (vI x :: st) w = if x = 0 then rn xs L m t ls st w else rn xs L m n ls st w := r_if1 hp rfl
theorem r_ne0 (hp : ma_pg xs L m pc = some (.inl (i_if1 (ma_cm0 .ne) t n)) ∧ ∃ t, ma_mts m = some t) : rn xs L m pc ls (vI x :: st) w = if x = 0 then rn xs L m n ls st w else rn xs L m t ls st w := by
  rw [r_if1 (c := ¬ x = 0) hp rfl]
  by_cases h : x = 0 <;> simp [h]
theorem r_lt0 (hp : ma_pg xs L m pc = some (.inl (i_if1 (ma_cm0 .lt) t n)) ∧ ∃ t, ma_mts m = some t) : rn xs L m pc ls (vI x :: st) w = if x < 0 then rn xs L m t ls st w else rn xs L m n ls st w := r_if1 hp rfl
theorem r_ge0 (hp : ma_pg xs L m pc = some (.inl (i_if1 (ma_cm0 .ge) t n)) ∧ ∃ t, ma_mts m = some t) : rn xs L m pc ls (vI x :: st) w = if x < 0 then rn xs L m n ls st w else rn xs L m t ls st w := by
  rw [r_if1 (c := 0 ≤ x) hp rfl]
  by_cases h : x < 0
  · rw [if_pos h, if_neg (Int32.not_le.mpr h)]
  · rw [if_neg h, if_pos (Int32.not_lt.mp h)]
theorem r_gt0 (hp : ma_pg xs L m pc = some (.inl (i_if1 (ma_cm0 .gt) t n)) ∧ ∃ t, ma_mts m = some t) : rn xs L m pc ls (vI x :: st) w = if 0 < x then rn xs L m t ls st w else rn xs L m n ls st w := r_if1 hp rfl
theorem r_le0 (hp : ma_pg xs L m pc = some (.inl (i_if1 (ma_cm0 .le) t n)) ∧ ∃ t, ma_mts m = some t) : rn xs L m pc ls (vI x :: st) w = if 0 < x then rn xs L m n ls st w else rn xs L m t ls st w := by
  rw [r_if1 (c := x ≤ 0) hp rfl]
  by_cases h : 0 < x
  · rw [if_pos h, if_neg (Int32.not_le.mpr h)]
  · rw [if_neg h, if_pos (Int32.not_lt.mp h)]
theorem r_ialc {a N : Nat} {i : Int32} {j : Nat} (hp : ma_pg xs L m pc = some (.inl (i_iald n)) ∧ ∃ t, ma_mts m = some t) (h1 : (ma_sh w)[a]? = some (.inr (0, N))) (h2 : ma_in i N = true) (hj : i.toNatClampNeg = j) : rn xs L m pc ls (vI i :: vR a :: st) w = rn xs L m n ls (vI (ma_ai w a j) :: st) w := by subst hj; exact r_iald hp h1 h2
theorem r_iasc {a N : Nat} {i : Int32} {j : Nat} (hp : ma_pg xs L m pc = some (.inl (i_iast n)) ∧ ∃ t, ma_mts m = some t) (h1 : (ma_sh w)[a]? = some (.inr (0, N))) (h2 : ma_in i N = true) (hj : i.toNatClampNeg = j) : rn xs L m pc ls (vI x :: vI i :: vR a :: st) w = rn xs L m n ls st (pu_ai w a j x) := by subst hj; exact r_iast hp h1 h2
theorem r_cpyc {a a0 N N0 k : Nat} {z : Int32} (hp : ma_pg xs L m pc = some (.inl (i_lim 5 (i_cpy n))) ∧ ∃ t, ma_mts m = some t) (hl : (st.map ma_cat).sum ≤ 8) (h1 : (ma_sh w)[a]? = some (.inr (0, N))) (h0 : (ma_sh w)[a0]? = some (.inr (0, N0))) (hz : ¬ z < 0) (hk : z.toNatClampNeg = k) (hb : k ≤ N0 ∧ k ≤ N) :
    rn xs L m pc ls (vI z :: vI 0 :: vR a :: vI 0 :: vR a0 :: st) w = rn xs L m n ls st (pu_ax w a (va_cpy (ma_ai w a0) (ma_ai w a) 0 0 k)) := by
  subst hk
  have h00 : (0 : Int32).toNatClampNeg = 0 := by decide
  have h := r_cpy (sp := 0) (dp := 0) (ls := ls) hp hl h1 h0 ⟨by decide, by decide, hz, by rw [h00, Nat.zero_add]; exact hb.1, by rw [h00, Nat.zero_add]; exact hb.2⟩
  rw [h00] at h
  exact h
theorem call_of {kind ci m' na nx lv : Nat} {t : ma_M} {as rest : List ma_V} (ht : ma_mts m' = some t) (hb : (Nat.ble na st.length && Nat.ble (t.2.2.2.2.2.1 + 1) lv && Nat.ble ((st.drop na).map ma_cat).sum 8 && Nat.ble (ma_arg (st.take na).reverse).length t.2.2.1) = true) (h5 : ma_rcv w kind ci (st.take na).reverse = true) (e1 : (st.take na).reverse = as) (e2 : st.drop na = rest) : ma_call w lv (kind, ci, m', na, nx) st = some (t, as, rest) := by
  subst e1
  subst e2
  simp only [Bool.and_eq_true, Nat.ble_eq] at hb
  unfold ma_call
  dsimp only
  rw [ht]
  dsimp only
  rw [if_pos (by simp only [Bool.and_eq_true, decide_eq_true_eq]; exact ⟨⟨⟨⟨hb.1.1.1, hb.1.1.2⟩, hb.1.2⟩, hb.2⟩, h5⟩)]
theorem r_call {kind ci m' na nx nL : Nat} {t t2 : ma_M} {as rest : List ma_V} (hp : ma_pg xs L m pc = some (.inr (.inl (kind, ci, m', na, nx))) ∧ ∃ t, ma_mts m = some t) (ht : ma_mts m = some t) (ht2 : ma_mts m' = some t2) (hn : t2.2.2.1 = nL) (hb : (Nat.ble na st.length && Nat.ble (t2.2.2.2.2.2.1 + 1) t.2.2.2.2.2.1 && Nat.ble ((st.drop na).map ma_cat).sum 8 && Nat.ble (ma_arg (st.take na).reverse).length t2.2.2.1) = true) (h5 : ma_rcv w kind ci (st.take na).reverse = true) (e1 : (st.take na).reverse = as) (e2 : st.drop na = rest) :
    rn xs L m pc ls st w = (ev xs L m' nL as w).bind (fun b => rn xs L m nx ls (b.1.toList ++ rest) b.2) := by
  subst hn
  exact rn_call hp ht (call_of ht2 hb h5 e1 e2)
theorem rcv1 {ci o : Nat} {r : List ma_V} (h : (ma_sh w)[o]? = some (.inl ci)) : ma_rcv w 1 ci (vR o :: r) = true := decide_eq_true h
theorem rcv2 {ci a : Nat} {r : List ma_V} (h : 3 ≤ a ∧ a < 33 ∧ a % 2 = 1) : ma_rcv w 2 ci (vS a :: r) = true := decide_eq_true h
theorem z_nar {x : Int32} (h : x = 0 ∨ x = 1) : vp_nar .boolean x = x ∧ ma_nar .boolean x = true := by
  rcases h with rfl | rfl <;> decide
theorem r_ri {t : ma_M} (hp : ma_pg xs L m pc = some (.inr (.inr 1)) ∧ ∃ t, ma_mts m = some t) (ht : ma_mts m = some t) (hr : t.2.2.2.1 = some .int) : rn xs L m pc ls [vI x] w = some (some (vI x), w) := rn_ret hp ht (by rw [hr]; rfl)
theorem r_rz {t : ma_M} (hp : ma_pg xs L m pc = some (.inr (.inr 1)) ∧ ∃ t, ma_mts m = some t) (ht : ma_mts m = some t) (hr : t.2.2.2.1 = some .boolean) (h : x = 0 ∨ x = 1) : rn xs L m pc ls [vI x] w = some (some (vI x), w) := rn_ret hp ht (by
  rw [hr]
  show (if decide (vp_nar .boolean x = x) then some (some (vI x)) else none) = _
  rw [if_pos (decide_eq_true (z_nar h).1)])
theorem r_rc {t : ma_M} (hp : ma_pg xs L m pc = some (.inr (.inr 1)) ∧ ∃ t, ma_mts m = some t) (ht : ma_mts m = some t) (hr : t.2.2.2.1 = some .char) (h : vp_nar .char x = x) : rn xs L m pc ls [vI x] w = some (some (vI x), w) := rn_ret hp ht (by
  rw [hr]
  show (if decide (vp_nar .char x = x) then some (some (vI x)) else none) = _
  rw [if_pos (decide_eq_true h)])
theorem r_rb {t : ma_M} (hp : ma_pg xs L m pc = some (.inr (.inr 1)) ∧ ∃ t, ma_mts m = some t) (ht : ma_mts m = some t) (hr : t.2.2.2.1 = some .byte) (h : vp_nar .byte x = x) : rn xs L m pc ls [vI x] w = some (some (vI x), w) := rn_ret hp ht (by
  rw [hr]
  show (if decide (vp_nar .byte x = x) then some (some (vI x)) else none) = _
  rw [if_pos (decide_eq_true h)])
theorem r_rl {t : ma_M} {z : Int64} (hp : ma_pg xs L m pc = some (.inr (.inr 2)) ∧ ∃ t, ma_mts m = some t) (ht : ma_mts m = some t) (hr : t.2.2.2.1 = some .long) : rn xs L m pc ls [vL z] w = some (some (vL z), w) := rn_ret hp ht (by rw [hr]; rfl)
theorem r_rv {t : ma_M} (hp : ma_pg xs L m pc = some (.inr (.inr 0)) ∧ ∃ t, ma_mts m = some t) (ht : ma_mts m = some t) (hr : t.2.2.2.1 = none) : rn xs L m pc ls [] w = some (none, w) := rn_ret hp ht (by rw [hr]; rfl)
theorem r_rs {t : ma_M} {a : Nat} (hp : ma_pg xs L m pc = some (.inr (.inr 3)) ∧ ∃ t, ma_mts m = some t) (ht : ma_mts m = some t) (hr : t.2.2.2.1 = some (.object "java/lang/String")) (h : 3 ≤ a ∧ a < 33 ∧ a % 2 = 1) : rn xs L m pc ls [vS a] w = some (some (vS a), w) := rn_ret hp ht (by
  rw [hr]
  show (if some (FieldType.object "java/lang/String") = some (.object "java/lang/String") ∧ 3 ≤ a ∧ a < 33 ∧ a % 2 = 1 then some (some (vS a)) else none) = _
  rw [if_pos ⟨rfl, h⟩])
theorem i_nei {x : Int32} {k : Int} (y : Int32) (hy : y.toInt = k) (h : ¬ x = y) : x.toInt ≠ k := fun e => h (Int32.toInt_inj.mp (e.trans hy.symm))
theorem tsw_out {pc : Nat} {dflt lo hi : Int} {offs : Array Int} {T : Nat} (h : x.toInt < lo ∨ hi < x.toInt) (h0 : 0 ≤ (pc : Int) + dflt) (hT : ma_tgt pc dflt = T) : ma_tsw pc dflt lo hi offs x = some T := by
  unfold ma_tsw
  rw [if_pos h]
  dsimp only
  rw [if_pos h0, hT]
end R23
end
section
def is_si (q : Nat) : Prop := q = 33 ∨ q = 35 ∨ q = 37 ∨ q = 39
def is_rw (q : Nat) : Prop := q = 45 ∨ q = 46 ∨ q = 47 ∨ q = 48
theorem mw_si {f a : Nat → Nat → Int32} {g : Nat → Nat → Int64} {q : Nat} (h : is_si q) : (ma_sh (mw f a g))[q]? = some (.inr (2, 40)) := by rcases h with rfl | rfl | rfl | rfl <;> rfl
theorem mw_rw {f a : Nat → Nat → Int32} {g : Nat → Nat → Int64} {q : Nat} (h : is_rw q) : (ma_sh (mw f a g))[q]? = some (.inr (0, 62)) := by rcases h with rfl | rfl | rfl | rfl <;> rfl
theorem si_of {q : Nat} (h : is_sh q) : is_si (q + 1) := by
  unfold is_sh at h
  unfold is_si
  omega
theorem lsw_out2 {pc : Nat} {dflt k0 t0 k1 t1 : Int} {T : Nat} {x : Int32} (h0 : 0 ≤ (pc : Int) + dflt) (hT : ma_tgt pc dflt = T) (e0 : x.toInt ≠ k0) (e1 : x.toInt ≠ k1) : ma_lsw pc dflt #[(k0, t0), (k1, t1)] x = some T := by
  have h : Op.lookupswitch.offset [(k0, t0), (k1, t1)] dflt x.toInt = dflt := by
    simp [Op.lookupswitch.offset, Ne.symm e0, Ne.symm e1]
  unfold ma_lsw
  show (if 0 ≤ (pc : Int) + Op.lookupswitch.offset [(k0, t0), (k1, t1)] dflt x.toInt then some (ma_tgt pc (Op.lookupswitch.offset [(k0, t0), (k1, t1)] dflt x.toInt)) else none) = _
  rw [h, if_pos h0, hT]
end
section
theorem dJ6_bitCount_0f7a4_0 : decode cJ6_bitCount_0f7a4 0 = .ok (.iload_n 0, 1) := by decide +kernel
theorem dJ6_bitCount_0f7a4_1 : decode cJ6_bitCount_0f7a4 1 = .ok (.iload_n 0, 1) := by decide +kernel
theorem dJ6_bitCount_0f7a4_2 : decode cJ6_bitCount_0f7a4 2 = .ok (.iconst 1, 1) := by decide +kernel
theorem dJ6_bitCount_0f7a4_3 : decode cJ6_bitCount_0f7a4 3 = .ok (.iushr, 1) := by decide +kernel
theorem dJ6_bitCount_0f7a4_4 : decode cJ6_bitCount_0f7a4 4 = .ok (.ldc_w 265, 3) := by decide +kernel
theorem dJ6_bitCount_0f7a4_7 : decode cJ6_bitCount_0f7a4 7 = .ok (.iand, 1) := by decide +kernel
theorem dJ6_bitCount_0f7a4_8 : decode cJ6_bitCount_0f7a4 8 = .ok (.isub, 1) := by decide +kernel
theorem dJ6_bitCount_0f7a4_9 : decode cJ6_bitCount_0f7a4 9 = .ok (.istore_n 0, 1) := by decide +kernel
theorem dJ6_bitCount_0f7a4_10 : decode cJ6_bitCount_0f7a4 10 = .ok (.iload_n 0, 1) := by decide +kernel
theorem dJ6_bitCount_0f7a4_11 : decode cJ6_bitCount_0f7a4 11 = .ok (.ldc_w 266, 3) := by decide +kernel
theorem dJ6_bitCount_0f7a4_14 : decode cJ6_bitCount_0f7a4 14 = .ok (.iand, 1) := by decide +kernel
theorem dJ6_bitCount_0f7a4_15 : decode cJ6_bitCount_0f7a4 15 = .ok (.iload_n 0, 1) := by decide +kernel
theorem dJ6_bitCount_0f7a4_16 : decode cJ6_bitCount_0f7a4 16 = .ok (.iconst 2, 1) := by decide +kernel
theorem dJ6_bitCount_0f7a4_17 : decode cJ6_bitCount_0f7a4 17 = .ok (.iushr, 1) := by decide +kernel
theorem dJ6_bitCount_0f7a4_18 : decode cJ6_bitCount_0f7a4 18 = .ok (.ldc_w 266, 3) := by decide +kernel
theorem dJ6_bitCount_0f7a4_21 : decode cJ6_bitCount_0f7a4 21 = .ok (.iand, 1) := by decide +kernel
theorem dJ6_bitCount_0f7a4_22 : decode cJ6_bitCount_0f7a4 22 = .ok (.iadd, 1) := by decide +kernel
theorem dJ6_bitCount_0f7a4_23 : decode cJ6_bitCount_0f7a4 23 = .ok (.istore_n 0, 1) := by decide +kernel
theorem dJ6_bitCount_0f7a4_24 : decode cJ6_bitCount_0f7a4 24 = .ok (.iload_n 0, 1) := by decide +kernel
theorem dJ6_bitCount_0f7a4_25 : decode cJ6_bitCount_0f7a4 25 = .ok (.iload_n 0, 1) := by decide +kernel
theorem dJ6_bitCount_0f7a4_26 : decode cJ6_bitCount_0f7a4 26 = .ok (.iconst 4, 1) := by decide +kernel
theorem dJ6_bitCount_0f7a4_27 : decode cJ6_bitCount_0f7a4 27 = .ok (.iushr, 1) := by decide +kernel
theorem dJ6_bitCount_0f7a4_28 : decode cJ6_bitCount_0f7a4 28 = .ok (.iadd, 1) := by decide +kernel
theorem dJ6_bitCount_0f7a4_29 : decode cJ6_bitCount_0f7a4 29 = .ok (.ldc_w 267, 3) := by decide +kernel
theorem dJ6_bitCount_0f7a4_32 : decode cJ6_bitCount_0f7a4 32 = .ok (.iand, 1) := by decide +kernel
theorem dJ6_bitCount_0f7a4_33 : decode cJ6_bitCount_0f7a4 33 = .ok (.istore_n 0, 1) := by decide +kernel
theorem dJ6_bitCount_0f7a4_34 : decode cJ6_bitCount_0f7a4 34 = .ok (.iload_n 0, 1) := by decide +kernel
theorem dJ6_bitCount_0f7a4_35 : decode cJ6_bitCount_0f7a4 35 = .ok (.iload_n 0, 1) := by decide +kernel
theorem dJ6_bitCount_0f7a4_36 : decode cJ6_bitCount_0f7a4 36 = .ok (.bipush 8, 2) := by decide +kernel
theorem dJ6_bitCount_0f7a4_38 : decode cJ6_bitCount_0f7a4 38 = .ok (.iushr, 1) := by decide +kernel
theorem dJ6_bitCount_0f7a4_39 : decode cJ6_bitCount_0f7a4 39 = .ok (.iadd, 1) := by decide +kernel
theorem dJ6_bitCount_0f7a4_40 : decode cJ6_bitCount_0f7a4 40 = .ok (.istore_n 0, 1) := by decide +kernel
theorem dJ6_bitCount_0f7a4_41 : decode cJ6_bitCount_0f7a4 41 = .ok (.iload_n 0, 1) := by decide +kernel
theorem dJ6_bitCount_0f7a4_42 : decode cJ6_bitCount_0f7a4 42 = .ok (.iload_n 0, 1) := by decide +kernel
theorem dJ6_bitCount_0f7a4_43 : decode cJ6_bitCount_0f7a4 43 = .ok (.bipush 16, 2) := by decide +kernel
theorem dJ6_bitCount_0f7a4_45 : decode cJ6_bitCount_0f7a4 45 = .ok (.iushr, 1) := by decide +kernel
theorem dJ6_bitCount_0f7a4_46 : decode cJ6_bitCount_0f7a4 46 = .ok (.iadd, 1) := by decide +kernel
theorem dJ6_bitCount_0f7a4_47 : decode cJ6_bitCount_0f7a4 47 = .ok (.istore_n 0, 1) := by decide +kernel
theorem dJ6_bitCount_0f7a4_48 : decode cJ6_bitCount_0f7a4 48 = .ok (.iload_n 0, 1) := by decide +kernel
theorem dJ6_bitCount_0f7a4_49 : decode cJ6_bitCount_0f7a4 49 = .ok (.bipush 63, 2) := by decide +kernel
theorem dJ6_bitCount_0f7a4_51 : decode cJ6_bitCount_0f7a4 51 = .ok (.iand, 1) := by decide +kernel
theorem dJ6_bitCount_0f7a4_52 : decode cJ6_bitCount_0f7a4 52 = .ok (.ireturn, 1) := by decide +kernel
theorem dJ9_max_7cf53_0 : decode cJ9_max_7cf53 0 = .ok (.iload_n 0, 1) := by decide +kernel
theorem dJ9_max_7cf53_1 : decode cJ9_max_7cf53 1 = .ok (.iload_n 1, 1) := by decide +kernel
theorem dJ9_max_7cf53_2 : decode cJ9_max_7cf53 2 = .ok (.if_icmp .lt 7, 3) := by decide +kernel
theorem dJ9_max_7cf53_5 : decode cJ9_max_7cf53 5 = .ok (.iload_n 0, 1) := by decide +kernel
theorem dJ9_max_7cf53_6 : decode cJ9_max_7cf53 6 = .ok (.goto 4, 3) := by decide +kernel
theorem dJ9_max_7cf53_9 : decode cJ9_max_7cf53 9 = .ok (.iload_n 1, 1) := by decide +kernel
theorem dJ9_max_7cf53_10 : decode cJ9_max_7cf53 10 = .ok (.ireturn, 1) := by decide +kernel
theorem dJ9_min_7cf53_0 : decode cJ9_min_7cf53 0 = .ok (.iload_n 0, 1) := by decide +kernel
theorem dJ9_min_7cf53_1 : decode cJ9_min_7cf53 1 = .ok (.iload_n 1, 1) := by decide +kernel
theorem dJ9_min_7cf53_2 : decode cJ9_min_7cf53 2 = .ok (.if_icmp .gt 7, 3) := by decide +kernel
theorem dJ9_min_7cf53_5 : decode cJ9_min_7cf53 5 = .ok (.iload_n 0, 1) := by decide +kernel
theorem dJ9_min_7cf53_6 : decode cJ9_min_7cf53 6 = .ok (.goto 4, 3) := by decide +kernel
theorem dJ9_min_7cf53_9 : decode cJ9_min_7cf53 9 = .ok (.iload_n 1, 1) := by decide +kernel
theorem dJ9_min_7cf53_10 : decode cJ9_min_7cf53 10 = .ok (.ireturn, 1) := by decide +kernel
theorem dJ0_length_8abf5_0 : decode cJ0_length_8abf5 0 = .ok (.aload_n 0, 1) := by decide +kernel
theorem dJ0_length_8abf5_1 : decode cJ0_length_8abf5 1 = .ok (.getfield 9, 3) := by decide +kernel
theorem dJ0_length_8abf5_4 : decode cJ0_length_8abf5 4 = .ok (.arraylength, 1) := by decide +kernel
theorem dJ0_length_8abf5_5 : decode cJ0_length_8abf5 5 = .ok (.aload_n 0, 1) := by decide +kernel
theorem dJ0_length_8abf5_6 : decode cJ0_length_8abf5 6 = .ok (.invokevirtual 335, 3) := by decide +kernel
theorem dJ0_length_8abf5_9 : decode cJ0_length_8abf5 9 = .ok (.ishr, 1) := by decide +kernel
theorem dJ0_length_8abf5_10 : decode cJ0_length_8abf5 10 = .ok (.ireturn, 1) := by decide +kernel
theorem dJ0_charAt_5068e_0 : decode cJ0_charAt_5068e 0 = .ok (.aload_n 0, 1) := by decide +kernel
theorem dJ0_charAt_5068e_1 : decode cJ0_charAt_5068e 1 = .ok (.invokevirtual 492, 3) := by decide +kernel
theorem dJ0_charAt_5068e_4 : decode cJ0_charAt_5068e 4 = .ok (.ifCond .eq 12, 3) := by decide +kernel
theorem dJ0_charAt_5068e_7 : decode cJ0_charAt_5068e 7 = .ok (.aload_n 0, 1) := by decide +kernel
theorem dJ0_charAt_5068e_8 : decode cJ0_charAt_5068e 8 = .ok (.getfield 9, 3) := by decide +kernel
theorem dJ0_charAt_5068e_11 : decode cJ0_charAt_5068e 11 = .ok (.iload_n 1, 1) := by decide +kernel
theorem dJ0_charAt_5068e_12 : decode cJ0_charAt_5068e 12 = .ok (.invokestatic 495, 3) := by decide +kernel
theorem dJ0_charAt_5068e_15 : decode cJ0_charAt_5068e 15 = .ok (.ireturn, 1) := by decide +kernel
theorem dJ0_charAt_5068e_16 : decode cJ0_charAt_5068e 16 = .ok (.aload_n 0, 1) := by decide +kernel
theorem dJ0_charAt_5068e_17 : decode cJ0_charAt_5068e 17 = .ok (.getfield 9, 3) := by decide +kernel
theorem dJ0_charAt_5068e_20 : decode cJ0_charAt_5068e 20 = .ok (.iload_n 1, 1) := by decide +kernel
theorem dJ0_charAt_5068e_21 : decode cJ0_charAt_5068e 21 = .ok (.invokestatic 498, 3) := by decide +kernel
theorem dJ0_charAt_5068e_24 : decode cJ0_charAt_5068e 24 = .ok (.ireturn, 1) := by decide +kernel
theorem dJ0_coder_7d493_0 : decode cJ0_coder_7d493 0 = .ok (.getstatic 38, 3) := by decide +kernel
theorem dJ0_coder_7d493_3 : decode cJ0_coder_7d493 3 = .ok (.ifCond .eq 10, 3) := by decide +kernel
theorem dJ0_coder_7d493_6 : decode cJ0_coder_7d493 6 = .ok (.aload_n 0, 1) := by decide +kernel
theorem dJ0_coder_7d493_7 : decode cJ0_coder_7d493 7 = .ok (.getfield 15, 3) := by decide +kernel
theorem dJ0_coder_7d493_10 : decode cJ0_coder_7d493 10 = .ok (.goto 4, 3) := by decide +kernel
theorem dJ0_coder_7d493_13 : decode cJ0_coder_7d493 13 = .ok (.iconst 1, 1) := by decide +kernel
theorem dJ0_coder_7d493_14 : decode cJ0_coder_7d493 14 = .ok (.ireturn, 1) := by decide +kernel
theorem dJ0_isLatin1_aae02_0 : decode cJ0_isLatin1_aae02 0 = .ok (.getstatic 38, 3) := by decide +kernel
theorem dJ0_isLatin1_aae02_3 : decode cJ0_isLatin1_aae02 3 = .ok (.ifCond .eq 14, 3) := by decide +kernel
theorem dJ0_isLatin1_aae02_6 : decode cJ0_isLatin1_aae02 6 = .ok (.aload_n 0, 1) := by decide +kernel
theorem dJ0_isLatin1_aae02_7 : decode cJ0_isLatin1_aae02 7 = .ok (.getfield 15, 3) := by decide +kernel
theorem dJ0_isLatin1_aae02_10 : decode cJ0_isLatin1_aae02 10 = .ok (.ifCond .ne 7, 3) := by decide +kernel
theorem dJ0_isLatin1_aae02_13 : decode cJ0_isLatin1_aae02 13 = .ok (.iconst 1, 1) := by decide +kernel
theorem dJ0_isLatin1_aae02_14 : decode cJ0_isLatin1_aae02 14 = .ok (.goto 4, 3) := by decide +kernel
theorem dJ0_isLatin1_aae02_17 : decode cJ0_isLatin1_aae02 17 = .ok (.iconst 0, 1) := by decide +kernel
theorem dJ0_isLatin1_aae02_18 : decode cJ0_isLatin1_aae02 18 = .ok (.ireturn, 1) := by decide +kernel
theorem dJ0_checkIndex_df160_0 : decode cJ0_checkIndex_df160 0 = .ok (.iload_n 0, 1) := by decide +kernel
theorem dJ0_checkIndex_df160_1 : decode cJ0_checkIndex_df160 1 = .ok (.iload_n 1, 1) := by decide +kernel
theorem dJ0_checkIndex_df160_2 : decode cJ0_checkIndex_df160 2 = .ok (.getstatic 1053, 3) := by decide +kernel
theorem dJ0_checkIndex_df160_5 : decode cJ0_checkIndex_df160 5 = .ok (.invokestatic 1059, 3) := by decide +kernel
theorem dJ0_checkIndex_df160_8 : decode cJ0_checkIndex_df160 8 = .ok (.pop, 1) := by decide +kernel
theorem dJ0_checkIndex_df160_9 : decode cJ0_checkIndex_df160 9 = .ok (.return_, 1) := by decide +kernel
theorem dJ1_charAt_3b067_0 : decode cJ1_charAt_3b067 0 = .ok (.iload_n 1, 1) := by decide +kernel
theorem dJ1_charAt_3b067_1 : decode cJ1_charAt_3b067 1 = .ok (.aload_n 0, 1) := by decide +kernel
theorem dJ1_charAt_3b067_2 : decode cJ1_charAt_3b067 2 = .ok (.arraylength, 1) := by decide +kernel
theorem dJ1_charAt_3b067_3 : decode cJ1_charAt_3b067 3 = .ok (.invokestatic 9, 3) := by decide +kernel
theorem dJ1_charAt_3b067_6 : decode cJ1_charAt_3b067 6 = .ok (.aload_n 0, 1) := by decide +kernel
theorem dJ1_charAt_3b067_7 : decode cJ1_charAt_3b067 7 = .ok (.iload_n 1, 1) := by decide +kernel
theorem dJ1_charAt_3b067_8 : decode cJ1_charAt_3b067 8 = .ok (.baload, 1) := by decide +kernel
theorem dJ1_charAt_3b067_9 : decode cJ1_charAt_3b067 9 = .ok (.sipush 255, 3) := by decide +kernel
theorem dJ1_charAt_3b067_12 : decode cJ1_charAt_3b067 12 = .ok (.iand, 1) := by decide +kernel
theorem dJ1_charAt_3b067_13 : decode cJ1_charAt_3b067 13 = .ok (.i2c, 1) := by decide +kernel
theorem dJ1_charAt_3b067_14 : decode cJ1_charAt_3b067 14 = .ok (.ireturn, 1) := by decide +kernel
theorem dJ2_getChar_3b067_0 : decode cJ2_getChar_3b067 0 = .ok (.getstatic 44, 3) := by decide +kernel
theorem dJ2_getChar_3b067_3 : decode cJ2_getChar_3b067 3 = .ok (.ifCond .ne 25, 3) := by decide +kernel
theorem dJ2_getChar_3b067_6 : decode cJ2_getChar_3b067 6 = .ok (.iload_n 1, 1) := by decide +kernel
theorem dJ2_getChar_3b067_7 : decode cJ2_getChar_3b067 7 = .ok (.ifCond .lt 11, 3) := by decide +kernel
theorem dJ2_getChar_3b067_10 : decode cJ2_getChar_3b067 10 = .ok (.iload_n 1, 1) := by decide +kernel
theorem dJ2_getChar_3b067_11 : decode cJ2_getChar_3b067 11 = .ok (.aload_n 0, 1) := by decide +kernel
theorem dJ2_getChar_3b067_12 : decode cJ2_getChar_3b067 12 = .ok (.invokestatic 48, 3) := by decide +kernel
theorem dJ2_getChar_3b067_15 : decode cJ2_getChar_3b067 15 = .ok (.if_icmp .lt 13, 3) := by decide +kernel
theorem dJ2_getChar_3b067_18 : decode cJ2_getChar_3b067 18 = .ok (.new 52, 3) := by decide +kernel
theorem dJ2_getChar_3b067_21 : decode cJ2_getChar_3b067 21 = .ok (.dup, 1) := by decide +kernel
theorem dJ2_getChar_3b067_22 : decode cJ2_getChar_3b067 22 = .ok (.ldc 54, 2) := by decide +kernel
theorem dJ2_getChar_3b067_24 : decode cJ2_getChar_3b067 24 = .ok (.invokespecial 56, 3) := by decide +kernel
theorem dJ2_getChar_3b067_27 : decode cJ2_getChar_3b067 27 = .ok (.athrow, 1) := by decide +kernel
theorem dJ2_getChar_3b067_28 : decode cJ2_getChar_3b067 28 = .ok (.iload_n 1, 1) := by decide +kernel
theorem dJ2_getChar_3b067_29 : decode cJ2_getChar_3b067 29 = .ok (.iconst 1, 1) := by decide +kernel
theorem dJ2_getChar_3b067_30 : decode cJ2_getChar_3b067 30 = .ok (.ishl, 1) := by decide +kernel
theorem dJ2_getChar_3b067_31 : decode cJ2_getChar_3b067 31 = .ok (.istore_n 1, 1) := by decide +kernel
theorem dJ2_getChar_3b067_32 : decode cJ2_getChar_3b067 32 = .ok (.aload_n 0, 1) := by decide +kernel
theorem dJ2_getChar_3b067_33 : decode cJ2_getChar_3b067 33 = .ok (.iload_n 1, 1) := by decide +kernel
theorem dJ2_getChar_3b067_34 : decode cJ2_getChar_3b067 34 = .ok (.iinc 1 1, 3) := by decide +kernel
theorem dJ2_getChar_3b067_37 : decode cJ2_getChar_3b067 37 = .ok (.baload, 1) := by decide +kernel
theorem dJ2_getChar_3b067_38 : decode cJ2_getChar_3b067 38 = .ok (.sipush 255, 3) := by decide +kernel
theorem dJ2_getChar_3b067_41 : decode cJ2_getChar_3b067 41 = .ok (.iand, 1) := by decide +kernel
theorem dJ2_getChar_3b067_42 : decode cJ2_getChar_3b067 42 = .ok (.getstatic 59, 3) := by decide +kernel
theorem dJ2_getChar_3b067_45 : decode cJ2_getChar_3b067 45 = .ok (.ishl, 1) := by decide +kernel
theorem dJ2_getChar_3b067_46 : decode cJ2_getChar_3b067 46 = .ok (.aload_n 0, 1) := by decide +kernel
theorem dJ2_getChar_3b067_47 : decode cJ2_getChar_3b067 47 = .ok (.iload_n 1, 1) := by decide +kernel
theorem dJ2_getChar_3b067_48 : decode cJ2_getChar_3b067 48 = .ok (.baload, 1) := by decide +kernel
theorem dJ2_getChar_3b067_49 : decode cJ2_getChar_3b067 49 = .ok (.sipush 255, 3) := by decide +kernel
theorem dJ2_getChar_3b067_52 : decode cJ2_getChar_3b067 52 = .ok (.iand, 1) := by decide +kernel
theorem dJ2_getChar_3b067_53 : decode cJ2_getChar_3b067 53 = .ok (.getstatic 63, 3) := by decide +kernel
theorem dJ2_getChar_3b067_56 : decode cJ2_getChar_3b067 56 = .ok (.ishl, 1) := by decide +kernel
theorem dJ2_getChar_3b067_57 : decode cJ2_getChar_3b067 57 = .ok (.ior, 1) := by decide +kernel
theorem dJ2_getChar_3b067_58 : decode cJ2_getChar_3b067 58 = .ok (.i2c, 1) := by decide +kernel
theorem dJ2_getChar_3b067_59 : decode cJ2_getChar_3b067 59 = .ok (.ireturn, 1) := by decide +kernel
theorem dJ2_length_9d52b_0 : decode cJ2_length_9d52b 0 = .ok (.aload_n 0, 1) := by decide +kernel
theorem dJ2_length_9d52b_1 : decode cJ2_length_9d52b 1 = .ok (.arraylength, 1) := by decide +kernel
theorem dJ2_length_9d52b_2 : decode cJ2_length_9d52b 2 = .ok (.iconst 1, 1) := by decide +kernel
theorem dJ2_length_9d52b_3 : decode cJ2_length_9d52b 3 = .ok (.ishr, 1) := by decide +kernel
theorem dJ2_length_9d52b_4 : decode cJ2_length_9d52b 4 = .ok (.ireturn, 1) := by decide +kernel
theorem dJ2_charAt_3b067_0 : decode cJ2_charAt_3b067 0 = .ok (.iload_n 1, 1) := by decide +kernel
theorem dJ2_charAt_3b067_1 : decode cJ2_charAt_3b067 1 = .ok (.aload_n 0, 1) := by decide +kernel
theorem dJ2_charAt_3b067_2 : decode cJ2_charAt_3b067 2 = .ok (.invokestatic 67, 3) := by decide +kernel
theorem dJ2_charAt_3b067_5 : decode cJ2_charAt_3b067 5 = .ok (.aload_n 0, 1) := by decide +kernel
theorem dJ2_charAt_3b067_6 : decode cJ2_charAt_3b067 6 = .ok (.iload_n 1, 1) := by decide +kernel
theorem dJ2_charAt_3b067_7 : decode cJ2_charAt_3b067 7 = .ok (.invokestatic 71, 3) := by decide +kernel
theorem dJ2_charAt_3b067_10 : decode cJ2_charAt_3b067 10 = .ok (.ireturn, 1) := by decide +kernel
theorem dJ2_checkIndex_2214a_0 : decode cJ2_checkIndex_2214a 0 = .ok (.iload_n 0, 1) := by decide +kernel
theorem dJ2_checkIndex_2214a_1 : decode cJ2_checkIndex_2214a 1 = .ok (.aload_n 1, 1) := by decide +kernel
theorem dJ2_checkIndex_2214a_2 : decode cJ2_checkIndex_2214a 2 = .ok (.invokestatic 48, 3) := by decide +kernel
theorem dJ2_checkIndex_2214a_5 : decode cJ2_checkIndex_2214a 5 = .ok (.invokestatic 414, 3) := by decide +kernel
theorem dJ2_checkIndex_2214a_8 : decode cJ2_checkIndex_2214a 8 = .ok (.return_, 1) := by decide +kernel
theorem dJ3_checkIndex_8e157_0 : decode cJ3_checkIndex_8e157 0 = .ok (.iload_n 0, 1) := by decide +kernel
theorem dJ3_checkIndex_8e157_1 : decode cJ3_checkIndex_8e157 1 = .ok (.ifCond .lt 8, 3) := by decide +kernel
theorem dJ3_checkIndex_8e157_4 : decode cJ3_checkIndex_8e157 4 = .ok (.iload_n 0, 1) := by decide +kernel
theorem dJ3_checkIndex_8e157_5 : decode cJ3_checkIndex_8e157 5 = .ok (.iload_n 1, 1) := by decide +kernel
theorem dJ3_checkIndex_8e157_6 : decode cJ3_checkIndex_8e157 6 = .ok (.if_icmp .lt 10, 3) := by decide +kernel
theorem dJ3_checkIndex_8e157_9 : decode cJ3_checkIndex_8e157 9 = .ok (.aload_n 2, 1) := by decide +kernel
theorem dJ3_checkIndex_8e157_10 : decode cJ3_checkIndex_8e157 10 = .ok (.iload_n 0, 1) := by decide +kernel
theorem dJ3_checkIndex_8e157_11 : decode cJ3_checkIndex_8e157 11 = .ok (.iload_n 1, 1) := by decide +kernel
theorem dJ3_checkIndex_8e157_12 : decode cJ3_checkIndex_8e157 12 = .ok (.invokestatic 95, 3) := by decide +kernel
theorem dJ3_checkIndex_8e157_15 : decode cJ3_checkIndex_8e157 15 = .ok (.athrow, 1) := by decide +kernel
theorem dJ3_checkIndex_8e157_16 : decode cJ3_checkIndex_8e157 16 = .ok (.iload_n 0, 1) := by decide +kernel
theorem dJ3_checkIndex_8e157_17 : decode cJ3_checkIndex_8e157 17 = .ok (.ireturn, 1) := by decide +kernel
theorem dX0_init_0 : decode cX0_init 0 = .ok (.aload_n 0, 1) := by decide +kernel
theorem dX0_init_1 : decode cX0_init 1 = .ok (.invokespecial 3, 3) := by decide +kernel
theorem dX0_init_4 : decode cX0_init 4 = .ok (.aload_n 0, 1) := by decide +kernel
theorem dX0_init_5 : decode cX0_init 5 = .ok (.bipush 30, 2) := by decide +kernel
theorem dX0_init_7 : decode cX0_init 7 = .ok (.newarray .int, 2) := by decide +kernel
theorem dX0_init_9 : decode cX0_init 9 = .ok (.putfield 9, 3) := by decide +kernel
theorem dX0_init_12 : decode cX0_init 12 = .ok (.return_, 1) := by decide +kernel
theorem dX0_perform_0 : decode cX0_perform 0 = .ok (.aload_n 0, 1) := by decide +kernel
theorem dX0_perform_1 : decode cX0_perform 1 = .ok (.iconst 0, 1) := by decide +kernel
theorem dX0_perform_2 : decode cX0_perform 2 = .ok (.putfield 15, 3) := by decide +kernel
theorem dX0_perform_5 : decode cX0_perform 5 = .ok (.iload_n 1, 1) := by decide +kernel
theorem dX0_perform_6 : decode cX0_perform 6 = .ok (.tableswitch 66 0 3 #[30, 39, 48, 57], 30) := by decide +kernel
theorem dX0_perform_36 : decode cX0_perform 36 = .ok (.aload_n 0, 1) := by decide +kernel
theorem dX0_perform_37 : decode cX0_perform 37 = .ok (.iload_n 2, 1) := by decide +kernel
theorem dX0_perform_38 : decode cX0_perform 38 = .ok (.invokevirtual 19, 3) := by decide +kernel
theorem dX0_perform_41 : decode cX0_perform 41 = .ok (.istore_n 3, 1) := by decide +kernel
theorem dX0_perform_42 : decode cX0_perform 42 = .ok (.goto 32, 3) := by decide +kernel
theorem dX0_perform_45 : decode cX0_perform 45 = .ok (.aload_n 0, 1) := by decide +kernel
theorem dX0_perform_46 : decode cX0_perform 46 = .ok (.iload_n 2, 1) := by decide +kernel
theorem dX0_perform_47 : decode cX0_perform 47 = .ok (.invokevirtual 23, 3) := by decide +kernel
theorem dX0_perform_50 : decode cX0_perform 50 = .ok (.istore_n 3, 1) := by decide +kernel
theorem dX0_perform_51 : decode cX0_perform 51 = .ok (.goto 23, 3) := by decide +kernel
theorem dX0_perform_54 : decode cX0_perform 54 = .ok (.aload_n 0, 1) := by decide +kernel
theorem dX0_perform_55 : decode cX0_perform 55 = .ok (.iload_n 2, 1) := by decide +kernel
theorem dX0_perform_56 : decode cX0_perform 56 = .ok (.invokevirtual 26, 3) := by decide +kernel
theorem dX0_perform_59 : decode cX0_perform 59 = .ok (.istore_n 3, 1) := by decide +kernel
theorem dX0_perform_60 : decode cX0_perform 60 = .ok (.goto 14, 3) := by decide +kernel
theorem dX0_perform_63 : decode cX0_perform 63 = .ok (.aload_n 0, 1) := by decide +kernel
theorem dX0_perform_64 : decode cX0_perform 64 = .ok (.iload_n 2, 1) := by decide +kernel
theorem dX0_perform_65 : decode cX0_perform 65 = .ok (.invokevirtual 29, 3) := by decide +kernel
theorem dX0_perform_68 : decode cX0_perform 68 = .ok (.istore_n 3, 1) := by decide +kernel
theorem dX0_perform_69 : decode cX0_perform 69 = .ok (.goto 5, 3) := by decide +kernel
theorem dX0_perform_72 : decode cX0_perform 72 = .ok (.iconst 0, 1) := by decide +kernel
theorem dX0_perform_73 : decode cX0_perform 73 = .ok (.istore_n 3, 1) := by decide +kernel
theorem dX0_perform_74 : decode cX0_perform 74 = .ok (.aload_n 0, 1) := by decide +kernel
theorem dX0_perform_75 : decode cX0_perform 75 = .ok (.getfield 15, 3) := by decide +kernel
theorem dX0_perform_78 : decode cX0_perform 78 = .ok (.ifCond .eq 8, 3) := by decide +kernel
theorem dX0_perform_81 : decode cX0_perform 81 = .ok (.bipush (-15), 2) := by decide +kernel
theorem dX0_perform_83 : decode cX0_perform 83 = .ok (.goto 4, 3) := by decide +kernel
theorem dX0_perform_86 : decode cX0_perform 86 = .ok (.iload_n 3, 1) := by decide +kernel
theorem dX0_perform_87 : decode cX0_perform 87 = .ok (.ireturn, 1) := by decide +kernel
theorem dX0_turns_0 : decode cX0_turns 0 = .ok (.aload_n 0, 1) := by decide +kernel
theorem dX0_turns_1 : decode cX0_turns 1 = .ok (.bipush 40, 2) := by decide +kernel
theorem dX0_turns_3 : decode cX0_turns 3 = .ok (.aload_n 0, 1) := by decide +kernel
theorem dX0_turns_4 : decode cX0_turns 4 = .ok (.getfield 32, 3) := by decide +kernel
theorem dX0_turns_7 : decode cX0_turns 7 = .ok (.iconst 4, 1) := by decide +kernel
theorem dX0_turns_8 : decode cX0_turns 8 = .ok (.if_icmp .ne 7, 3) := by decide +kernel
theorem dX0_turns_11 : decode cX0_turns 11 = .ok (.iconst 1, 1) := by decide +kernel
theorem dX0_turns_12 : decode cX0_turns 12 = .ok (.goto 4, 3) := by decide +kernel
theorem dX0_turns_15 : decode cX0_turns 15 = .ok (.iconst 0, 1) := by decide +kernel
theorem dX0_turns_16 : decode cX0_turns 16 = .ok (.invokevirtual 36, 3) := by decide +kernel
theorem dX0_turns_19 : decode cX0_turns 19 = .ok (.aload_n 0, 1) := by decide +kernel
theorem dX0_turns_20 : decode cX0_turns 20 = .ok (.bipush 30, 2) := by decide +kernel
theorem dX0_turns_22 : decode cX0_turns 22 = .ok (.aload_n 0, 1) := by decide +kernel
theorem dX0_turns_23 : decode cX0_turns 23 = .ok (.getfield 32, 3) := by decide +kernel
theorem dX0_turns_26 : decode cX0_turns 26 = .ok (.iconst 2, 1) := by decide +kernel
theorem dX0_turns_27 : decode cX0_turns 27 = .ok (.invokestatic 40, 3) := by decide +kernel
theorem dX0_turns_30 : decode cX0_turns 30 = .ok (.invokevirtual 36, 3) := by decide +kernel
theorem dX0_turns_33 : decode cX0_turns 33 = .ok (.aload_n 0, 1) := by decide +kernel
theorem dX0_turns_34 : decode cX0_turns 34 = .ok (.bipush 51, 2) := by decide +kernel
theorem dX0_turns_36 : decode cX0_turns 36 = .ok (.aload_n 0, 1) := by decide +kernel
theorem dX0_turns_37 : decode cX0_turns 37 = .ok (.getfield 32, 3) := by decide +kernel
theorem dX0_turns_40 : decode cX0_turns 40 = .ok (.iconst 3, 1) := by decide +kernel
theorem dX0_turns_41 : decode cX0_turns 41 = .ok (.if_icmp .ne 7, 3) := by decide +kernel
theorem dX0_turns_44 : decode cX0_turns 44 = .ok (.iconst 1, 1) := by decide +kernel
theorem dX0_turns_45 : decode cX0_turns 45 = .ok (.goto 4, 3) := by decide +kernel
theorem dX0_turns_48 : decode cX0_turns 48 = .ok (.iconst 0, 1) := by decide +kernel
theorem dX0_turns_49 : decode cX0_turns 49 = .ok (.invokevirtual 36, 3) := by decide +kernel
theorem dX0_turns_52 : decode cX0_turns 52 = .ok (.aload_n 0, 1) := by decide +kernel
theorem dX0_turns_53 : decode cX0_turns 53 = .ok (.bipush 10, 2) := by decide +kernel
theorem dX0_turns_55 : decode cX0_turns 55 = .ok (.iconst 1, 1) := by decide +kernel
theorem dX0_turns_56 : decode cX0_turns 56 = .ok (.invokevirtual 36, 3) := by decide +kernel
theorem dX0_turns_59 : decode cX0_turns 59 = .ok (.iload_n 1, 1) := by decide +kernel
theorem dX0_turns_60 : decode cX0_turns 60 = .ok (.iconst 2, 1) := by decide +kernel
theorem dX0_turns_61 : decode cX0_turns 61 = .ok (.imul, 1) := by decide +kernel
theorem dX0_turns_62 : decode cX0_turns 62 = .ok (.aload_n 0, 1) := by decide +kernel
theorem dX0_turns_63 : decode cX0_turns 63 = .ok (.getfield 44, 3) := by decide +kernel
theorem dX0_turns_66 : decode cX0_turns 66 = .ok (.iconst 5, 1) := by decide +kernel
theorem dX0_turns_67 : decode cX0_turns 67 = .ok (.imul, 1) := by decide +kernel
theorem dX0_turns_68 : decode cX0_turns 68 = .ok (.iadd, 1) := by decide +kernel
theorem dX0_turns_69 : decode cX0_turns 69 = .ok (.istore_n 2, 1) := by decide +kernel
theorem dX0_turns_70 : decode cX0_turns 70 = .ok (.aload_n 0, 1) := by decide +kernel
theorem dX0_turns_71 : decode cX0_turns 71 = .ok (.getfield 32, 3) := by decide +kernel
theorem dX0_turns_74 : decode cX0_turns 74 = .ok (.iconst 2, 1) := by decide +kernel
theorem dX0_turns_75 : decode cX0_turns 75 = .ok (.invokestatic 40, 3) := by decide +kernel
theorem dX0_turns_78 : decode cX0_turns 78 = .ok (.ifCond .eq 7, 3) := by decide +kernel
theorem dX0_turns_81 : decode cX0_turns 81 = .ok (.iload_n 2, 1) := by decide +kernel
theorem dX0_turns_82 : decode cX0_turns 82 = .ok (.iconst 1, 1) := by decide +kernel
theorem dX0_turns_83 : decode cX0_turns 83 = .ok (.ixor, 1) := by decide +kernel
theorem dX0_turns_84 : decode cX0_turns 84 = .ok (.istore_n 2, 1) := by decide +kernel
theorem dX0_turns_85 : decode cX0_turns 85 = .ok (.aload_n 0, 1) := by decide +kernel
theorem dX0_turns_86 : decode cX0_turns 86 = .ok (.getfield 32, 3) := by decide +kernel
theorem dX0_turns_89 : decode cX0_turns 89 = .ok (.iconst 4, 1) := by decide +kernel
theorem dX0_turns_90 : decode cX0_turns 90 = .ok (.if_icmp .ne 7, 3) := by decide +kernel
theorem dX0_turns_93 : decode cX0_turns 93 = .ok (.iload_n 2, 1) := by decide +kernel
theorem dX0_turns_94 : decode cX0_turns 94 = .ok (.iconst 2, 1) := by decide +kernel
theorem dX0_turns_95 : decode cX0_turns 95 = .ok (.imul, 1) := by decide +kernel
theorem dX0_turns_96 : decode cX0_turns 96 = .ok (.istore_n 2, 1) := by decide +kernel
theorem dX0_turns_97 : decode cX0_turns 97 = .ok (.aload_n 0, 1) := by decide +kernel
theorem dX0_turns_98 : decode cX0_turns 98 = .ok (.getfield 32, 3) := by decide +kernel
theorem dX0_turns_101 : decode cX0_turns 101 = .ok (.iconst 3, 1) := by decide +kernel
theorem dX0_turns_102 : decode cX0_turns 102 = .ok (.if_icmp .ne 12, 3) := by decide +kernel
theorem dX0_turns_105 : decode cX0_turns 105 = .ok (.iload_n 2, 1) := by decide +kernel
theorem dX0_turns_106 : decode cX0_turns 106 = .ok (.aload_n 0, 1) := by decide +kernel
theorem dX0_turns_107 : decode cX0_turns 107 = .ok (.getfield 47, 3) := by decide +kernel
theorem dX0_turns_110 : decode cX0_turns 110 = .ok (.iadd, 1) := by decide +kernel
theorem dX0_turns_111 : decode cX0_turns 111 = .ok (.goto 4, 3) := by decide +kernel
theorem dX0_turns_114 : decode cX0_turns 114 = .ok (.iload_n 2, 1) := by decide +kernel
theorem dX0_turns_115 : decode cX0_turns 115 = .ok (.ireturn, 1) := by decide +kernel
theorem dX0_names_0 : decode cX0_names 0 = .ok (.aload_n 0, 1) := by decide +kernel
theorem dX0_names_1 : decode cX0_names 1 = .ok (.bipush 41, 2) := by decide +kernel
theorem dX0_names_3 : decode cX0_names 3 = .ok (.aload_n 0, 1) := by decide +kernel
theorem dX0_names_4 : decode cX0_names 4 = .ok (.getfield 32, 3) := by decide +kernel
theorem dX0_names_7 : decode cX0_names 7 = .ok (.iconst 4, 1) := by decide +kernel
theorem dX0_names_8 : decode cX0_names 8 = .ok (.if_icmp .ne 7, 3) := by decide +kernel
theorem dX0_names_11 : decode cX0_names 11 = .ok (.iconst 1, 1) := by decide +kernel
theorem dX0_names_12 : decode cX0_names 12 = .ok (.goto 4, 3) := by decide +kernel
theorem dX0_names_15 : decode cX0_names 15 = .ok (.iconst 0, 1) := by decide +kernel
theorem dX0_names_16 : decode cX0_names 16 = .ok (.invokevirtual 36, 3) := by decide +kernel
theorem dX0_names_19 : decode cX0_names 19 = .ok (.aload_n 0, 1) := by decide +kernel
theorem dX0_names_20 : decode cX0_names 20 = .ok (.bipush 20, 2) := by decide +kernel
theorem dX0_names_22 : decode cX0_names 22 = .ok (.aload_n 0, 1) := by decide +kernel
theorem dX0_names_23 : decode cX0_names 23 = .ok (.getfield 32, 3) := by decide +kernel
theorem dX0_names_26 : decode cX0_names 26 = .ok (.iconst 1, 1) := by decide +kernel
theorem dX0_names_27 : decode cX0_names 27 = .ok (.invokestatic 40, 3) := by decide +kernel
theorem dX0_names_30 : decode cX0_names 30 = .ok (.invokevirtual 36, 3) := by decide +kernel
theorem dX0_names_33 : decode cX0_names 33 = .ok (.aload_n 0, 1) := by decide +kernel
theorem dX0_names_34 : decode cX0_names 34 = .ok (.bipush 11, 2) := by decide +kernel
theorem dX0_names_36 : decode cX0_names 36 = .ok (.iconst 1, 1) := by decide +kernel
theorem dX0_names_37 : decode cX0_names 37 = .ok (.invokevirtual 36, 3) := by decide +kernel
theorem dX0_names_40 : decode cX0_names 40 = .ok (.aload_n 0, 1) := by decide +kernel
theorem dX0_names_41 : decode cX0_names 41 = .ok (.iload_n 1, 1) := by decide +kernel
theorem dX0_names_42 : decode cX0_names 42 = .ok (.invokevirtual 19, 3) := by decide +kernel
theorem dX0_names_45 : decode cX0_names 45 = .ok (.aload_n 0, 1) := by decide +kernel
theorem dX0_names_46 : decode cX0_names 46 = .ok (.getfield 47, 3) := by decide +kernel
theorem dX0_names_49 : decode cX0_names 49 = .ok (.isub, 1) := by decide +kernel
theorem dX0_names_50 : decode cX0_names 50 = .ok (.istore_n 2, 1) := by decide +kernel
theorem dX0_names_51 : decode cX0_names 51 = .ok (.aload_n 0, 1) := by decide +kernel
theorem dX0_names_52 : decode cX0_names 52 = .ok (.getfield 32, 3) := by decide +kernel
theorem dX0_names_55 : decode cX0_names 55 = .ok (.iconst 1, 1) := by decide +kernel
theorem dX0_names_56 : decode cX0_names 56 = .ok (.invokestatic 40, 3) := by decide +kernel
theorem dX0_names_59 : decode cX0_names 59 = .ok (.ifCond .eq 6, 3) := by decide +kernel
theorem dX0_names_62 : decode cX0_names 62 = .ok (.iinc 2 7, 3) := by decide +kernel
theorem dX0_names_65 : decode cX0_names 65 = .ok (.aload_n 0, 1) := by decide +kernel
theorem dX0_names_66 : decode cX0_names 66 = .ok (.getfield 32, 3) := by decide +kernel
theorem dX0_names_69 : decode cX0_names 69 = .ok (.iconst 4, 1) := by decide +kernel
theorem dX0_names_70 : decode cX0_names 70 = .ok (.if_icmp .ne 16, 3) := by decide +kernel
theorem dX0_names_73 : decode cX0_names 73 = .ok (.iload_n 2, 1) := by decide +kernel
theorem dX0_names_74 : decode cX0_names 74 = .ok (.aload_n 0, 1) := by decide +kernel
theorem dX0_names_75 : decode cX0_names 75 = .ok (.aload_n 0, 1) := by decide +kernel
theorem dX0_names_76 : decode cX0_names 76 = .ok (.getfield 47, 3) := by decide +kernel
theorem dX0_names_79 : decode cX0_names 79 = .ok (.invokevirtual 19, 3) := by decide +kernel
theorem dX0_names_82 : decode cX0_names 82 = .ok (.isub, 1) := by decide +kernel
theorem dX0_names_83 : decode cX0_names 83 = .ok (.goto 4, 3) := by decide +kernel
theorem dX0_names_86 : decode cX0_names 86 = .ok (.iload_n 2, 1) := by decide +kernel
theorem dX0_names_87 : decode cX0_names 87 = .ok (.ireturn, 1) := by decide +kernel
theorem dX0_parts_0 : decode cX0_parts 0 = .ok (.aload_n 0, 1) := by decide +kernel
theorem dX0_parts_1 : decode cX0_parts 1 = .ok (.bipush 50, 2) := by decide +kernel
theorem dX0_parts_3 : decode cX0_parts 3 = .ok (.aload_n 0, 1) := by decide +kernel
theorem dX0_parts_4 : decode cX0_parts 4 = .ok (.getfield 32, 3) := by decide +kernel
theorem dX0_parts_7 : decode cX0_parts 7 = .ok (.iconst 3, 1) := by decide +kernel
theorem dX0_parts_8 : decode cX0_parts 8 = .ok (.if_icmp .ne 7, 3) := by decide +kernel
theorem dX0_parts_11 : decode cX0_parts 11 = .ok (.iconst 1, 1) := by decide +kernel
theorem dX0_parts_12 : decode cX0_parts 12 = .ok (.goto 4, 3) := by decide +kernel
theorem dX0_parts_15 : decode cX0_parts 15 = .ok (.iconst 0, 1) := by decide +kernel
theorem dX0_parts_16 : decode cX0_parts 16 = .ok (.invokevirtual 36, 3) := by decide +kernel
theorem dX0_parts_19 : decode cX0_parts 19 = .ok (.aload_n 0, 1) := by decide +kernel
theorem dX0_parts_20 : decode cX0_parts 20 = .ok (.bipush 61, 2) := by decide +kernel
theorem dX0_parts_22 : decode cX0_parts 22 = .ok (.aload_n 0, 1) := by decide +kernel
theorem dX0_parts_23 : decode cX0_parts 23 = .ok (.getfield 32, 3) := by decide +kernel
theorem dX0_parts_26 : decode cX0_parts 26 = .ok (.iconst 5, 1) := by decide +kernel
theorem dX0_parts_27 : decode cX0_parts 27 = .ok (.if_icmp .ne 7, 3) := by decide +kernel
theorem dX0_parts_30 : decode cX0_parts 30 = .ok (.iconst 1, 1) := by decide +kernel
theorem dX0_parts_31 : decode cX0_parts 31 = .ok (.goto 4, 3) := by decide +kernel
theorem dX0_parts_34 : decode cX0_parts 34 = .ok (.iconst 0, 1) := by decide +kernel
theorem dX0_parts_35 : decode cX0_parts 35 = .ok (.invokevirtual 36, 3) := by decide +kernel
theorem dX0_parts_38 : decode cX0_parts 38 = .ok (.aload_n 0, 1) := by decide +kernel
theorem dX0_parts_39 : decode cX0_parts 39 = .ok (.bipush 12, 2) := by decide +kernel
theorem dX0_parts_41 : decode cX0_parts 41 = .ok (.iconst 1, 1) := by decide +kernel
theorem dX0_parts_42 : decode cX0_parts 42 = .ok (.invokevirtual 36, 3) := by decide +kernel
theorem dX0_parts_45 : decode cX0_parts 45 = .ok (.aload_n 0, 1) := by decide +kernel
theorem dX0_parts_46 : decode cX0_parts 46 = .ok (.getfield 47, 3) := by decide +kernel
theorem dX0_parts_49 : decode cX0_parts 49 = .ok (.aload_n 0, 1) := by decide +kernel
theorem dX0_parts_50 : decode cX0_parts 50 = .ok (.getfield 44, 3) := by decide +kernel
theorem dX0_parts_53 : decode cX0_parts 53 = .ok (.isub, 1) := by decide +kernel
theorem dX0_parts_54 : decode cX0_parts 54 = .ok (.istore_n 2, 1) := by decide +kernel
theorem dX0_parts_55 : decode cX0_parts 55 = .ok (.iload_n 2, 1) := by decide +kernel
theorem dX0_parts_56 : decode cX0_parts 56 = .ok (.ifCond .ne 10, 3) := by decide +kernel
theorem dX0_parts_59 : decode cX0_parts 59 = .ok (.aload_n 0, 1) := by decide +kernel
theorem dX0_parts_60 : decode cX0_parts 60 = .ok (.iconst 1, 1) := by decide +kernel
theorem dX0_parts_61 : decode cX0_parts 61 = .ok (.putfield 15, 3) := by decide +kernel
theorem dX0_parts_64 : decode cX0_parts 64 = .ok (.iconst 0, 1) := by decide +kernel
theorem dX0_parts_65 : decode cX0_parts 65 = .ok (.ireturn, 1) := by decide +kernel
theorem dX0_parts_66 : decode cX0_parts 66 = .ok (.aload_n 0, 1) := by decide +kernel
theorem dX0_parts_67 : decode cX0_parts 67 = .ok (.getfield 32, 3) := by decide +kernel
theorem dX0_parts_70 : decode cX0_parts 70 = .ok (.iconst 3, 1) := by decide +kernel
theorem dX0_parts_71 : decode cX0_parts 71 = .ok (.if_icmp .ne 9, 3) := by decide +kernel
theorem dX0_parts_74 : decode cX0_parts 74 = .ok (.iload_n 1, 1) := by decide +kernel
theorem dX0_parts_75 : decode cX0_parts 75 = .ok (.iconst 3, 1) := by decide +kernel
theorem dX0_parts_76 : decode cX0_parts 76 = .ok (.iadd, 1) := by decide +kernel
theorem dX0_parts_77 : decode cX0_parts 77 = .ok (.goto 4, 3) := by decide +kernel
theorem dX0_parts_80 : decode cX0_parts 80 = .ok (.iload_n 1, 1) := by decide +kernel
theorem dX0_parts_81 : decode cX0_parts 81 = .ok (.iload_n 2, 1) := by decide +kernel
theorem dX0_parts_82 : decode cX0_parts 82 = .ok (.idiv, 1) := by decide +kernel
theorem dX0_parts_83 : decode cX0_parts 83 = .ok (.istore_n 3, 1) := by decide +kernel
theorem dX0_parts_84 : decode cX0_parts 84 = .ok (.aload_n 0, 1) := by decide +kernel
theorem dX0_parts_85 : decode cX0_parts 85 = .ok (.getfield 32, 3) := by decide +kernel
theorem dX0_parts_88 : decode cX0_parts 88 = .ok (.iconst 5, 1) := by decide +kernel
theorem dX0_parts_89 : decode cX0_parts 89 = .ok (.if_icmp .ne 14, 3) := by decide +kernel
theorem dX0_parts_92 : decode cX0_parts 92 = .ok (.iload_n 3, 1) := by decide +kernel
theorem dX0_parts_93 : decode cX0_parts 93 = .ok (.aload_n 0, 1) := by decide +kernel
theorem dX0_parts_94 : decode cX0_parts 94 = .ok (.aload_n 0, 1) := by decide +kernel
theorem dX0_parts_95 : decode cX0_parts 95 = .ok (.getfield 44, 3) := by decide +kernel
theorem dX0_parts_98 : decode cX0_parts 98 = .ok (.invokevirtual 19, 3) := by decide +kernel
theorem dX0_parts_101 : decode cX0_parts 101 = .ok (.iadd, 1) := by decide +kernel
theorem dX0_parts_102 : decode cX0_parts 102 = .ok (.ireturn, 1) := by decide +kernel
theorem dX0_parts_103 : decode cX0_parts 103 = .ok (.aload_n 0, 1) := by decide +kernel
theorem dX0_parts_104 : decode cX0_parts 104 = .ok (.getfield 32, 3) := by decide +kernel
theorem dX0_parts_107 : decode cX0_parts 107 = .ok (.iconst 3, 1) := by decide +kernel
theorem dX0_parts_108 : decode cX0_parts 108 = .ok (.if_icmp .ne 9, 3) := by decide +kernel
theorem dX0_parts_111 : decode cX0_parts 111 = .ok (.iconst 0, 1) := by decide +kernel
theorem dX0_parts_112 : decode cX0_parts 112 = .ok (.iload_n 3, 1) := by decide +kernel
theorem dX0_parts_113 : decode cX0_parts 113 = .ok (.isub, 1) := by decide +kernel
theorem dX0_parts_114 : decode cX0_parts 114 = .ok (.goto 4, 3) := by decide +kernel
theorem dX0_parts_117 : decode cX0_parts 117 = .ok (.iload_n 3, 1) := by decide +kernel
theorem dX0_parts_118 : decode cX0_parts 118 = .ok (.ireturn, 1) := by decide +kernel
theorem dX0_lands_0 : decode cX0_lands 0 = .ok (.aload_n 0, 1) := by decide +kernel
theorem dX0_lands_1 : decode cX0_lands 1 = .ok (.bipush 31, 2) := by decide +kernel
theorem dX0_lands_3 : decode cX0_lands 3 = .ok (.aload_n 0, 1) := by decide +kernel
theorem dX0_lands_4 : decode cX0_lands 4 = .ok (.getfield 32, 3) := by decide +kernel
theorem dX0_lands_7 : decode cX0_lands 7 = .ok (.iconst 2, 1) := by decide +kernel
theorem dX0_lands_8 : decode cX0_lands 8 = .ok (.invokestatic 40, 3) := by decide +kernel
theorem dX0_lands_11 : decode cX0_lands 11 = .ok (.invokevirtual 36, 3) := by decide +kernel
theorem dX0_lands_14 : decode cX0_lands 14 = .ok (.aload_n 0, 1) := by decide +kernel
theorem dX0_lands_15 : decode cX0_lands 15 = .ok (.bipush 60, 2) := by decide +kernel
theorem dX0_lands_17 : decode cX0_lands 17 = .ok (.aload_n 0, 1) := by decide +kernel
theorem dX0_lands_18 : decode cX0_lands 18 = .ok (.getfield 32, 3) := by decide +kernel
theorem dX0_lands_21 : decode cX0_lands 21 = .ok (.iconst 5, 1) := by decide +kernel
theorem dX0_lands_22 : decode cX0_lands 22 = .ok (.if_icmp .ne 7, 3) := by decide +kernel
theorem dX0_lands_25 : decode cX0_lands 25 = .ok (.iconst 1, 1) := by decide +kernel
theorem dX0_lands_26 : decode cX0_lands 26 = .ok (.goto 4, 3) := by decide +kernel
theorem dX0_lands_29 : decode cX0_lands 29 = .ok (.iconst 0, 1) := by decide +kernel
theorem dX0_lands_30 : decode cX0_lands 30 = .ok (.invokevirtual 36, 3) := by decide +kernel
theorem dX0_lands_33 : decode cX0_lands 33 = .ok (.aload_n 0, 1) := by decide +kernel
theorem dX0_lands_34 : decode cX0_lands 34 = .ok (.bipush 13, 2) := by decide +kernel
theorem dX0_lands_36 : decode cX0_lands 36 = .ok (.iconst 1, 1) := by decide +kernel
theorem dX0_lands_37 : decode cX0_lands 37 = .ok (.invokevirtual 36, 3) := by decide +kernel
theorem dX0_lands_40 : decode cX0_lands 40 = .ok (.aload_n 0, 1) := by decide +kernel
theorem dX0_lands_41 : decode cX0_lands 41 = .ok (.iload_n 1, 1) := by decide +kernel
theorem dX0_lands_42 : decode cX0_lands 42 = .ok (.invokevirtual 23, 3) := by decide +kernel
theorem dX0_lands_45 : decode cX0_lands 45 = .ok (.bipush 20, 2) := by decide +kernel
theorem dX0_lands_47 : decode cX0_lands 47 = .ok (.ixor, 1) := by decide +kernel
theorem dX0_lands_48 : decode cX0_lands 48 = .ok (.istore_n 2, 1) := by decide +kernel
theorem dX0_lands_49 : decode cX0_lands 49 = .ok (.aload_n 0, 1) := by decide +kernel
theorem dX0_lands_50 : decode cX0_lands 50 = .ok (.getfield 32, 3) := by decide +kernel
theorem dX0_lands_53 : decode cX0_lands 53 = .ok (.iconst 2, 1) := by decide +kernel
theorem dX0_lands_54 : decode cX0_lands 54 = .ok (.invokestatic 40, 3) := by decide +kernel
theorem dX0_lands_57 : decode cX0_lands 57 = .ok (.ifCond .eq 14, 3) := by decide +kernel
theorem dX0_lands_60 : decode cX0_lands 60 = .ok (.iload_n 2, 1) := by decide +kernel
theorem dX0_lands_61 : decode cX0_lands 61 = .ok (.aload_n 0, 1) := by decide +kernel
theorem dX0_lands_62 : decode cX0_lands 62 = .ok (.aload_n 0, 1) := by decide +kernel
theorem dX0_lands_63 : decode cX0_lands 63 = .ok (.getfield 44, 3) := by decide +kernel
theorem dX0_lands_66 : decode cX0_lands 66 = .ok (.invokevirtual 26, 3) := by decide +kernel
theorem dX0_lands_69 : decode cX0_lands 69 = .ok (.isub, 1) := by decide +kernel
theorem dX0_lands_70 : decode cX0_lands 70 = .ok (.ireturn, 1) := by decide +kernel
theorem dX0_lands_71 : decode cX0_lands 71 = .ok (.aload_n 0, 1) := by decide +kernel
theorem dX0_lands_72 : decode cX0_lands 72 = .ok (.getfield 32, 3) := by decide +kernel
theorem dX0_lands_75 : decode cX0_lands 75 = .ok (.iconst 5, 1) := by decide +kernel
theorem dX0_lands_76 : decode cX0_lands 76 = .ok (.if_icmp .ne 9, 3) := by decide +kernel
theorem dX0_lands_79 : decode cX0_lands 79 = .ok (.iload_n 2, 1) := by decide +kernel
theorem dX0_lands_80 : decode cX0_lands 80 = .ok (.iload_n 1, 1) := by decide +kernel
theorem dX0_lands_81 : decode cX0_lands 81 = .ok (.ixor, 1) := by decide +kernel
theorem dX0_lands_82 : decode cX0_lands 82 = .ok (.goto 4, 3) := by decide +kernel
theorem dX0_lands_85 : decode cX0_lands 85 = .ok (.iload_n 2, 1) := by decide +kernel
theorem dX0_lands_86 : decode cX0_lands 86 = .ok (.ireturn, 1) := by decide +kernel
theorem dX0_began_0 : decode cX0_began 0 = .ok (.iload_n 2, 1) := by decide +kernel
theorem dX0_began_1 : decode cX0_began 1 = .ok (.ifCond .eq 32, 3) := by decide +kernel
theorem dX0_began_4 : decode cX0_began 4 = .ok (.aload_n 0, 1) := by decide +kernel
theorem dX0_began_5 : decode cX0_began 5 = .ok (.getfield 50, 3) := by decide +kernel
theorem dX0_began_8 : decode cX0_began 8 = .ok (.bipush 30, 2) := by decide +kernel
theorem dX0_began_10 : decode cX0_began 10 = .ok (.if_icmp .ge 23, 3) := by decide +kernel
theorem dX0_began_13 : decode cX0_began 13 = .ok (.aload_n 0, 1) := by decide +kernel
theorem dX0_began_14 : decode cX0_began 14 = .ok (.getfield 9, 3) := by decide +kernel
theorem dX0_began_17 : decode cX0_began 17 = .ok (.aload_n 0, 1) := by decide +kernel
theorem dX0_began_18 : decode cX0_began 18 = .ok (.getfield 50, 3) := by decide +kernel
theorem dX0_began_21 : decode cX0_began 21 = .ok (.iload_n 1, 1) := by decide +kernel
theorem dX0_began_22 : decode cX0_began 22 = .ok (.iastore, 1) := by decide +kernel
theorem dX0_began_23 : decode cX0_began 23 = .ok (.aload_n 0, 1) := by decide +kernel
theorem dX0_began_24 : decode cX0_began 24 = .ok (.dup, 1) := by decide +kernel
theorem dX0_began_25 : decode cX0_began 25 = .ok (.getfield 50, 3) := by decide +kernel
theorem dX0_began_28 : decode cX0_began 28 = .ok (.iconst 1, 1) := by decide +kernel
theorem dX0_began_29 : decode cX0_began 29 = .ok (.iadd, 1) := by decide +kernel
theorem dX0_began_30 : decode cX0_began 30 = .ok (.putfield 50, 3) := by decide +kernel
theorem dX0_began_33 : decode cX0_began 33 = .ok (.return_, 1) := by decide +kernel
theorem dX1_init_0 : decode cX1_init 0 = .ok (.aload_n 0, 1) := by decide +kernel
theorem dX1_init_1 : decode cX1_init 1 = .ok (.invokespecial 3, 3) := by decide +kernel
theorem dX1_init_4 : decode cX1_init 4 = .ok (.aload_n 0, 1) := by decide +kernel
theorem dX1_init_5 : decode cX1_init 5 = .ok (.bipush 40, 2) := by decide +kernel
theorem dX1_init_7 : decode cX1_init 7 = .ok (.newarray .long, 2) := by decide +kernel
theorem dX1_init_9 : decode cX1_init 9 = .ok (.putfield 9, 3) := by decide +kernel
theorem dX1_init_12 : decode cX1_init 12 = .ok (.aload_n 0, 1) := by decide +kernel
theorem dX1_init_13 : decode cX1_init 13 = .ok (.iconst (-1), 1) := by decide +kernel
theorem dX1_init_14 : decode cX1_init 14 = .ok (.putfield 15, 3) := by decide +kernel
theorem dX1_init_17 : decode cX1_init 17 = .ok (.return_, 1) := by decide +kernel
theorem dX1_isMissing_0 : decode cX1_isMissing 0 = .ok (.aload_n 0, 1) := by decide +kernel
theorem dX1_isMissing_1 : decode cX1_isMissing 1 = .ok (.getfield 15, 3) := by decide +kernel
theorem dX1_isMissing_4 : decode cX1_isMissing 4 = .ok (.iconst (-1), 1) := by decide +kernel
theorem dX1_isMissing_5 : decode cX1_isMissing 5 = .ok (.if_icmp .ne 7, 3) := by decide +kernel
theorem dX1_isMissing_8 : decode cX1_isMissing 8 = .ok (.iconst 1, 1) := by decide +kernel
theorem dX1_isMissing_9 : decode cX1_isMissing 9 = .ok (.goto 4, 3) := by decide +kernel
theorem dX1_isMissing_12 : decode cX1_isMissing 12 = .ok (.iconst 0, 1) := by decide +kernel
theorem dX1_isMissing_13 : decode cX1_isMissing 13 = .ok (.ireturn, 1) := by decide +kernel
theorem dX1_begin_0 : decode cX1_begin 0 = .ok (.aload_n 0, 1) := by decide +kernel
theorem dX1_begin_1 : decode cX1_begin 1 = .ok (.iload_n 1, 1) := by decide +kernel
theorem dX1_begin_2 : decode cX1_begin 2 = .ok (.putfield 15, 3) := by decide +kernel
theorem dX1_begin_5 : decode cX1_begin 5 = .ok (.aload_n 0, 1) := by decide +kernel
theorem dX1_begin_6 : decode cX1_begin 6 = .ok (.iload_n 2, 1) := by decide +kernel
theorem dX1_begin_7 : decode cX1_begin 7 = .ok (.putfield 19, 3) := by decide +kernel
theorem dX1_begin_10 : decode cX1_begin 10 = .ok (.iconst 0, 1) := by decide +kernel
theorem dX1_begin_11 : decode cX1_begin 11 = .ok (.istore_n 3, 1) := by decide +kernel
theorem dX1_begin_12 : decode cX1_begin 12 = .ok (.iload_n 3, 1) := by decide +kernel
theorem dX1_begin_13 : decode cX1_begin 13 = .ok (.bipush 40, 2) := by decide +kernel
theorem dX1_begin_15 : decode cX1_begin 15 = .ok (.if_icmp .ge 16, 3) := by decide +kernel
theorem dX1_begin_18 : decode cX1_begin 18 = .ok (.aload_n 0, 1) := by decide +kernel
theorem dX1_begin_19 : decode cX1_begin 19 = .ok (.getfield 9, 3) := by decide +kernel
theorem dX1_begin_22 : decode cX1_begin 22 = .ok (.iload_n 3, 1) := by decide +kernel
theorem dX1_begin_23 : decode cX1_begin 23 = .ok (.lconst 0, 1) := by decide +kernel
theorem dX1_begin_24 : decode cX1_begin 24 = .ok (.lastore, 1) := by decide +kernel
theorem dX1_begin_25 : decode cX1_begin 25 = .ok (.iinc 3 1, 3) := by decide +kernel
theorem dX1_begin_28 : decode cX1_begin 28 = .ok (.goto (-16), 3) := by decide +kernel
theorem dX1_begin_31 : decode cX1_begin 31 = .ok (.return_, 1) := by decide +kernel
theorem dX1_narrowed_0 : decode cX1_narrowed 0 = .ok (.aload_n 0, 1) := by decide +kernel
theorem dX1_narrowed_1 : decode cX1_narrowed 1 = .ok (.getfield 15, 3) := by decide +kernel
theorem dX1_narrowed_4 : decode cX1_narrowed 4 = .ok (.ifCond .ne 9, 3) := by decide +kernel
theorem dX1_narrowed_7 : decode cX1_narrowed 7 = .ok (.iload_n 1, 1) := by decide +kernel
theorem dX1_narrowed_8 : decode cX1_narrowed 8 = .ok (.i2b, 1) := by decide +kernel
theorem dX1_narrowed_9 : decode cX1_narrowed 9 = .ok (.i2l, 1) := by decide +kernel
theorem dX1_narrowed_10 : decode cX1_narrowed 10 = .ok (.goto 19, 3) := by decide +kernel
theorem dX1_narrowed_13 : decode cX1_narrowed 13 = .ok (.aload_n 0, 1) := by decide +kernel
theorem dX1_narrowed_14 : decode cX1_narrowed 14 = .ok (.getfield 15, 3) := by decide +kernel
theorem dX1_narrowed_17 : decode cX1_narrowed 17 = .ok (.iconst 1, 1) := by decide +kernel
theorem dX1_narrowed_18 : decode cX1_narrowed 18 = .ok (.if_icmp .ne 9, 3) := by decide +kernel
theorem dX1_narrowed_21 : decode cX1_narrowed 21 = .ok (.iload_n 1, 1) := by decide +kernel
theorem dX1_narrowed_22 : decode cX1_narrowed 22 = .ok (.i2s, 1) := by decide +kernel
theorem dX1_narrowed_23 : decode cX1_narrowed 23 = .ok (.i2l, 1) := by decide +kernel
theorem dX1_narrowed_24 : decode cX1_narrowed 24 = .ok (.goto 5, 3) := by decide +kernel
theorem dX1_narrowed_27 : decode cX1_narrowed 27 = .ok (.iload_n 1, 1) := by decide +kernel
theorem dX1_narrowed_28 : decode cX1_narrowed 28 = .ok (.i2l, 1) := by decide +kernel
theorem dX1_narrowed_29 : decode cX1_narrowed 29 = .ok (.lreturn, 1) := by decide +kernel
theorem dX2_init_0 : decode cX2_init 0 = .ok (.aload_n 0, 1) := by decide +kernel
theorem dX2_init_1 : decode cX2_init 1 = .ok (.invokespecial 3, 3) := by decide +kernel
theorem dX2_init_4 : decode cX2_init 4 = .ok (.aload_n 0, 1) := by decide +kernel
theorem dX2_init_5 : decode cX2_init 5 = .ok (.iconst 2, 1) := by decide +kernel
theorem dX2_init_6 : decode cX2_init 6 = .ok (.putfield 9, 3) := by decide +kernel
theorem dX2_init_9 : decode cX2_init 9 = .ok (.return_, 1) := by decide +kernel
theorem dX2_takeLeaf_0 : decode cX2_takeLeaf 0 = .ok (.aload_n 0, 1) := by decide +kernel
theorem dX2_takeLeaf_1 : decode cX2_takeLeaf 1 = .ok (.iconst 0, 1) := by decide +kernel
theorem dX2_takeLeaf_2 : decode cX2_takeLeaf 2 = .ok (.putfield 9, 3) := by decide +kernel
theorem dX2_takeLeaf_5 : decode cX2_takeLeaf 5 = .ok (.aload_n 0, 1) := by decide +kernel
theorem dX2_takeLeaf_6 : decode cX2_takeLeaf 6 = .ok (.iload_n 1, 1) := by decide +kernel
theorem dX2_takeLeaf_7 : decode cX2_takeLeaf 7 = .ok (.putfield 15, 3) := by decide +kernel
theorem dX2_takeLeaf_10 : decode cX2_takeLeaf 10 = .ok (.return_, 1) := by decide +kernel
theorem dX2_takeRow_0 : decode cX2_takeRow 0 = .ok (.aload_n 0, 1) := by decide +kernel
theorem dX2_takeRow_1 : decode cX2_takeRow 1 = .ok (.aload_n 1, 1) := by decide +kernel
theorem dX2_takeRow_2 : decode cX2_takeRow 2 = .ok (.invokevirtual 18, 3) := by decide +kernel
theorem dX2_takeRow_5 : decode cX2_takeRow 5 = .ok (.ifCond .eq 7, 3) := by decide +kernel
theorem dX2_takeRow_8 : decode cX2_takeRow 8 = .ok (.iconst 2, 1) := by decide +kernel
theorem dX2_takeRow_9 : decode cX2_takeRow 9 = .ok (.goto 4, 3) := by decide +kernel
theorem dX2_takeRow_12 : decode cX2_takeRow 12 = .ok (.iconst 1, 1) := by decide +kernel
theorem dX2_takeRow_13 : decode cX2_takeRow 13 = .ok (.putfield 9, 3) := by decide +kernel
theorem dX2_takeRow_16 : decode cX2_takeRow 16 = .ok (.aload_n 0, 1) := by decide +kernel
theorem dX2_takeRow_17 : decode cX2_takeRow 17 = .ok (.aload_n 1, 1) := by decide +kernel
theorem dX2_takeRow_18 : decode cX2_takeRow 18 = .ok (.getfield 24, 3) := by decide +kernel
theorem dX2_takeRow_21 : decode cX2_takeRow 21 = .ok (.putfield 15, 3) := by decide +kernel
theorem dX2_takeRow_24 : decode cX2_takeRow 24 = .ok (.aload_n 0, 1) := by decide +kernel
theorem dX2_takeRow_25 : decode cX2_takeRow 25 = .ok (.aload_n 1, 1) := by decide +kernel
theorem dX2_takeRow_26 : decode cX2_takeRow 26 = .ok (.getfield 27, 3) := by decide +kernel
theorem dX2_takeRow_29 : decode cX2_takeRow 29 = .ok (.putfield 30, 3) := by decide +kernel
theorem dX2_takeRow_32 : decode cX2_takeRow 32 = .ok (.return_, 1) := by decide +kernel
theorem dX3_init_0 : decode cX3_init 0 = .ok (.aload_n 0, 1) := by decide +kernel
theorem dX3_init_1 : decode cX3_init 1 = .ok (.invokespecial 3, 3) := by decide +kernel
theorem dX3_init_4 : decode cX3_init 4 = .ok (.aload_n 0, 1) := by decide +kernel
theorem dX3_init_5 : decode cX3_init 5 = .ok (.sipush 200, 3) := by decide +kernel
theorem dX3_init_8 : decode cX3_init 8 = .ok (.newarray .byte, 2) := by decide +kernel
theorem dX3_init_10 : decode cX3_init 10 = .ok (.putfield 9, 3) := by decide +kernel
theorem dX3_init_13 : decode cX3_init 13 = .ok (.return_, 1) := by decide +kernel
theorem dX3_readInto_0 : decode cX3_readInto 0 = .ok (.aload_n 0, 1) := by decide +kernel
theorem dX3_readInto_1 : decode cX3_readInto 1 = .ok (.iconst 0, 1) := by decide +kernel
theorem dX3_readInto_2 : decode cX3_readInto 2 = .ok (.putfield 15, 3) := by decide +kernel
theorem dX3_readInto_5 : decode cX3_readInto 5 = .ok (.aload_n 0, 1) := by decide +kernel
theorem dX3_readInto_6 : decode cX3_readInto 6 = .ok (.iconst (-1), 1) := by decide +kernel
theorem dX3_readInto_7 : decode cX3_readInto 7 = .ok (.putfield 19, 3) := by decide +kernel
theorem dX3_readInto_10 : decode cX3_readInto 10 = .ok (.aload_n 0, 1) := by decide +kernel
theorem dX3_readInto_11 : decode cX3_readInto 11 = .ok (.invokevirtual 22, 3) := by decide +kernel
theorem dX3_readInto_14 : decode cX3_readInto 14 = .ok (.iconst 0, 1) := by decide +kernel
theorem dX3_readInto_15 : decode cX3_readInto 15 = .ok (.istore_n 2, 1) := by decide +kernel
theorem dX3_readInto_16 : decode cX3_readInto 16 = .ok (.iload_n 2, 1) := by decide +kernel
theorem dX3_readInto_17 : decode cX3_readInto 17 = .ok (.sipush 200, 3) := by decide +kernel
theorem dX3_readInto_20 : decode cX3_readInto 20 = .ok (.if_icmp .ge 96, 3) := by decide +kernel
theorem dX3_readInto_23 : decode cX3_readInto 23 = .ok (.aload_n 0, 1) := by decide +kernel
theorem dX3_readInto_24 : decode cX3_readInto 24 = .ok (.getfield 25, 3) := by decide +kernel
theorem dX3_readInto_27 : decode cX3_readInto 27 = .ok (.ifCond .eq 89, 3) := by decide +kernel
theorem dX3_readInto_30 : decode cX3_readInto 30 = .ok (.aload_n 0, 1) := by decide +kernel
theorem dX3_readInto_31 : decode cX3_readInto 31 = .ok (.getfield 19, 3) := by decide +kernel
theorem dX3_readInto_34 : decode cX3_readInto 34 = .ok (.ifCond .ge 82, 3) := by decide +kernel
theorem dX3_readInto_37 : decode cX3_readInto 37 = .ok (.aload_n 0, 1) := by decide +kernel
theorem dX3_readInto_38 : decode cX3_readInto 38 = .ok (.invokevirtual 28, 3) := by decide +kernel
theorem dX3_readInto_41 : decode cX3_readInto 41 = .ok (.istore_n 3, 1) := by decide +kernel
theorem dX3_readInto_42 : decode cX3_readInto 42 = .ok (.aload_n 0, 1) := by decide +kernel
theorem dX3_readInto_43 : decode cX3_readInto 43 = .ok (.invokevirtual 32, 3) := by decide +kernel
theorem dX3_readInto_46 : decode cX3_readInto 46 = .ok (.istore 4, 2) := by decide +kernel
theorem dX3_readInto_48 : decode cX3_readInto 48 = .ok (.iload_n 3, 1) := by decide +kernel
theorem dX3_readInto_49 : decode cX3_readInto 49 = .ok (.ifCond .lt 12, 3) := by decide +kernel
theorem dX3_readInto_52 : decode cX3_readInto 52 = .ok (.aload_n 0, 1) := by decide +kernel
theorem dX3_readInto_53 : decode cX3_readInto 53 = .ok (.aload_n 1, 1) := by decide +kernel
theorem dX3_readInto_54 : decode cX3_readInto 54 = .ok (.iload_n 3, 1) := by decide +kernel
theorem dX3_readInto_55 : decode cX3_readInto 55 = .ok (.invokevirtual 35, 3) := by decide +kernel
theorem dX3_readInto_58 : decode cX3_readInto 58 = .ok (.goto 52, 3) := by decide +kernel
theorem dX3_readInto_61 : decode cX3_readInto 61 = .ok (.aload_n 0, 1) := by decide +kernel
theorem dX3_readInto_62 : decode cX3_readInto 62 = .ok (.ldc 39, 2) := by decide +kernel
theorem dX3_readInto_64 : decode cX3_readInto 64 = .ok (.invokevirtual 41, 3) := by decide +kernel
theorem dX3_readInto_67 : decode cX3_readInto 67 = .ok (.ifCond .eq 11, 3) := by decide +kernel
theorem dX3_readInto_70 : decode cX3_readInto 70 = .ok (.aload_n 0, 1) := by decide +kernel
theorem dX3_readInto_71 : decode cX3_readInto 71 = .ok (.aload_n 1, 1) := by decide +kernel
theorem dX3_readInto_72 : decode cX3_readInto 72 = .ok (.invokevirtual 45, 3) := by decide +kernel
theorem dX3_readInto_75 : decode cX3_readInto 75 = .ok (.goto 35, 3) := by decide +kernel
theorem dX3_readInto_78 : decode cX3_readInto 78 = .ok (.iload 4, 2) := by decide +kernel
theorem dX3_readInto_80 : decode cX3_readInto 80 = .ok (.ifCond .lt 22, 3) := by decide +kernel
theorem dX3_readInto_83 : decode cX3_readInto 83 = .ok (.aload_n 1, 1) := by decide +kernel
theorem dX3_readInto_84 : decode cX3_readInto 84 = .ok (.getfield 49, 3) := by decide +kernel
theorem dX3_readInto_87 : decode cX3_readInto 87 = .ok (.bipush 8, 2) := by decide +kernel
theorem dX3_readInto_89 : decode cX3_readInto 89 = .ok (.if_icmp .ge 13, 3) := by decide +kernel
theorem dX3_readInto_92 : decode cX3_readInto 92 = .ok (.aload_n 0, 1) := by decide +kernel
theorem dX3_readInto_93 : decode cX3_readInto 93 = .ok (.aload_n 1, 1) := by decide +kernel
theorem dX3_readInto_94 : decode cX3_readInto 94 = .ok (.iload 4, 2) := by decide +kernel
theorem dX3_readInto_96 : decode cX3_readInto 96 = .ok (.invokevirtual 54, 3) := by decide +kernel
theorem dX3_readInto_99 : decode cX3_readInto 99 = .ok (.goto 11, 3) := by decide +kernel
theorem dX3_readInto_102 : decode cX3_readInto 102 = .ok (.aload_n 0, 1) := by decide +kernel
theorem dX3_readInto_103 : decode cX3_readInto 103 = .ok (.aload_n 0, 1) := by decide +kernel
theorem dX3_readInto_104 : decode cX3_readInto 104 = .ok (.getfield 57, 3) := by decide +kernel
theorem dX3_readInto_107 : decode cX3_readInto 107 = .ok (.putfield 19, 3) := by decide +kernel
theorem dX3_readInto_110 : decode cX3_readInto 110 = .ok (.iinc 2 1, 3) := by decide +kernel
theorem dX3_readInto_113 : decode cX3_readInto 113 = .ok (.goto (-97), 3) := by decide +kernel
theorem dX3_readInto_116 : decode cX3_readInto 116 = .ok (.aload_n 0, 1) := by decide +kernel
theorem dX3_readInto_117 : decode cX3_readInto 117 = .ok (.getfield 19, 3) := by decide +kernel
theorem dX3_readInto_120 : decode cX3_readInto 120 = .ok (.ireturn, 1) := by decide +kernel
theorem dX3_readLaw_0 : decode cX3_readLaw 0 = .ok (.aload_n 0, 1) := by decide +kernel
theorem dX3_readLaw_1 : decode cX3_readLaw 1 = .ok (.invokevirtual 22, 3) := by decide +kernel
theorem dX3_readLaw_4 : decode cX3_readLaw 4 = .ok (.aload_n 0, 1) := by decide +kernel
theorem dX3_readLaw_5 : decode cX3_readLaw 5 = .ok (.iload_n 2, 1) := by decide +kernel
theorem dX3_readLaw_6 : decode cX3_readLaw 6 = .ok (.invokestatic 60, 3) := by decide +kernel
theorem dX3_readLaw_9 : decode cX3_readLaw 9 = .ok (.invokevirtual 64, 3) := by decide +kernel
theorem dX3_readLaw_12 : decode cX3_readLaw 12 = .ok (.istore_n 3, 1) := by decide +kernel
theorem dX3_readLaw_13 : decode cX3_readLaw 13 = .ok (.iload_n 3, 1) := by decide +kernel
theorem dX3_readLaw_14 : decode cX3_readLaw 14 = .ok (.ifCond .lt 17, 3) := by decide +kernel
theorem dX3_readLaw_17 : decode cX3_readLaw 17 = .ok (.aload_n 0, 1) := by decide +kernel
theorem dX3_readLaw_18 : decode cX3_readLaw 18 = .ok (.invokevirtual 67, 3) := by decide +kernel
theorem dX3_readLaw_21 : decode cX3_readLaw 21 = .ok (.ifCond .eq 10, 3) := by decide +kernel
theorem dX3_readLaw_24 : decode cX3_readLaw 24 = .ok (.aload_n 1, 1) := by decide +kernel
theorem dX3_readLaw_25 : decode cX3_readLaw 25 = .ok (.getfield 71, 3) := by decide +kernel
theorem dX3_readLaw_28 : decode cX3_readLaw 28 = .ok (.iload_n 2, 1) := by decide +kernel
theorem dX3_readLaw_29 : decode cX3_readLaw 29 = .ok (.iload_n 3, 1) := by decide +kernel
theorem dX3_readLaw_30 : decode cX3_readLaw 30 = .ok (.iastore, 1) := by decide +kernel
theorem dX3_readLaw_31 : decode cX3_readLaw 31 = .ok (.return_, 1) := by decide +kernel
theorem dX3_readSway_0 : decode cX3_readSway 0 = .ok (.aload_n 0, 1) := by decide +kernel
theorem dX3_readSway_1 : decode cX3_readSway 1 = .ok (.invokevirtual 22, 3) := by decide +kernel
theorem dX3_readSway_4 : decode cX3_readSway 4 = .ok (.aload_n 0, 1) := by decide +kernel
theorem dX3_readSway_5 : decode cX3_readSway 5 = .ok (.iconst 5, 1) := by decide +kernel
theorem dX3_readSway_6 : decode cX3_readSway 6 = .ok (.invokevirtual 64, 3) := by decide +kernel
theorem dX3_readSway_9 : decode cX3_readSway 9 = .ok (.istore_n 2, 1) := by decide +kernel
theorem dX3_readSway_10 : decode cX3_readSway 10 = .ok (.iload_n 2, 1) := by decide +kernel
theorem dX3_readSway_11 : decode cX3_readSway 11 = .ok (.ifCond .lt 12, 3) := by decide +kernel
theorem dX3_readSway_14 : decode cX3_readSway 14 = .ok (.aload_n 0, 1) := by decide +kernel
theorem dX3_readSway_15 : decode cX3_readSway 15 = .ok (.ldc 75, 2) := by decide +kernel
theorem dX3_readSway_17 : decode cX3_readSway 17 = .ok (.invokevirtual 77, 3) := by decide +kernel
theorem dX3_readSway_20 : decode cX3_readSway 20 = .ok (.ifCond .ne 4, 3) := by decide +kernel
theorem dX3_readSway_23 : decode cX3_readSway 23 = .ok (.return_, 1) := by decide +kernel
theorem dX3_readSway_24 : decode cX3_readSway 24 = .ok (.aload_n 0, 1) := by decide +kernel
theorem dX3_readSway_25 : decode cX3_readSway 25 = .ok (.bipush 9, 2) := by decide +kernel
theorem dX3_readSway_27 : decode cX3_readSway 27 = .ok (.invokevirtual 64, 3) := by decide +kernel
theorem dX3_readSway_30 : decode cX3_readSway 30 = .ok (.istore_n 3, 1) := by decide +kernel
theorem dX3_readSway_31 : decode cX3_readSway 31 = .ok (.iload_n 3, 1) := by decide +kernel
theorem dX3_readSway_32 : decode cX3_readSway 32 = .ok (.ifCond .lt 17, 3) := by decide +kernel
theorem dX3_readSway_35 : decode cX3_readSway 35 = .ok (.aload_n 0, 1) := by decide +kernel
theorem dX3_readSway_36 : decode cX3_readSway 36 = .ok (.invokevirtual 67, 3) := by decide +kernel
theorem dX3_readSway_39 : decode cX3_readSway 39 = .ok (.ifCond .eq 10, 3) := by decide +kernel
theorem dX3_readSway_42 : decode cX3_readSway 42 = .ok (.aload_n 1, 1) := by decide +kernel
theorem dX3_readSway_43 : decode cX3_readSway 43 = .ok (.getfield 80, 3) := by decide +kernel
theorem dX3_readSway_46 : decode cX3_readSway 46 = .ok (.iload_n 2, 1) := by decide +kernel
theorem dX3_readSway_47 : decode cX3_readSway 47 = .ok (.iload_n 3, 1) := by decide +kernel
theorem dX3_readSway_48 : decode cX3_readSway 48 = .ok (.iastore, 1) := by decide +kernel
theorem dX3_readSway_49 : decode cX3_readSway 49 = .ok (.return_, 1) := by decide +kernel
theorem dX3_readLeaf_0 : decode cX3_readLeaf 0 = .ok (.aload_n 0, 1) := by decide +kernel
theorem dX3_readLeaf_1 : decode cX3_readLeaf 1 = .ok (.invokevirtual 22, 3) := by decide +kernel
theorem dX3_readLeaf_4 : decode cX3_readLeaf 4 = .ok (.aload_n 0, 1) := by decide +kernel
theorem dX3_readLeaf_5 : decode cX3_readLeaf 5 = .ok (.ldc 83, 2) := by decide +kernel
theorem dX3_readLeaf_7 : decode cX3_readLeaf 7 = .ok (.invokevirtual 77, 3) := by decide +kernel
theorem dX3_readLeaf_10 : decode cX3_readLeaf 10 = .ok (.ifCond .ne 4, 3) := by decide +kernel
theorem dX3_readLeaf_13 : decode cX3_readLeaf 13 = .ok (.return_, 1) := by decide +kernel
theorem dX3_readLeaf_14 : decode cX3_readLeaf 14 = .ok (.aload_n 0, 1) := by decide +kernel
theorem dX3_readLeaf_15 : decode cX3_readLeaf 15 = .ok (.iconst 5, 1) := by decide +kernel
theorem dX3_readLeaf_16 : decode cX3_readLeaf 16 = .ok (.invokevirtual 64, 3) := by decide +kernel
theorem dX3_readLeaf_19 : decode cX3_readLeaf 19 = .ok (.istore_n 3, 1) := by decide +kernel
theorem dX3_readLeaf_20 : decode cX3_readLeaf 20 = .ok (.iload_n 3, 1) := by decide +kernel
theorem dX3_readLeaf_21 : decode cX3_readLeaf 21 = .ok (.ifCond .ge 4, 3) := by decide +kernel
theorem dX3_readLeaf_24 : decode cX3_readLeaf 24 = .ok (.return_, 1) := by decide +kernel
theorem dX3_readLeaf_25 : decode cX3_readLeaf 25 = .ok (.aload_n 0, 1) := by decide +kernel
theorem dX3_readLeaf_26 : decode cX3_readLeaf 26 = .ok (.ldc 85, 2) := by decide +kernel
theorem dX3_readLeaf_28 : decode cX3_readLeaf 28 = .ok (.bipush 99, 2) := by decide +kernel
theorem dX3_readLeaf_30 : decode cX3_readLeaf 30 = .ok (.bipush 10, 2) := by decide +kernel
theorem dX3_readLeaf_32 : decode cX3_readLeaf 32 = .ok (.invokevirtual 87, 3) := by decide +kernel
theorem dX3_readLeaf_35 : decode cX3_readLeaf 35 = .ok (.istore 4, 2) := by decide +kernel
theorem dX3_readLeaf_37 : decode cX3_readLeaf 37 = .ok (.iload 4, 2) := by decide +kernel
theorem dX3_readLeaf_39 : decode cX3_readLeaf 39 = .ok (.ifCond .ge 4, 3) := by decide +kernel
theorem dX3_readLeaf_42 : decode cX3_readLeaf 42 = .ok (.return_, 1) := by decide +kernel
theorem dX3_readLeaf_43 : decode cX3_readLeaf 43 = .ok (.aload_n 0, 1) := by decide +kernel
theorem dX3_readLeaf_44 : decode cX3_readLeaf 44 = .ok (.ldc 91, 2) := by decide +kernel
theorem dX3_readLeaf_46 : decode cX3_readLeaf 46 = .ok (.bipush 9, 2) := by decide +kernel
theorem dX3_readLeaf_48 : decode cX3_readLeaf 48 = .ok (.iconst 0, 1) := by decide +kernel
theorem dX3_readLeaf_49 : decode cX3_readLeaf 49 = .ok (.invokevirtual 87, 3) := by decide +kernel
theorem dX3_readLeaf_52 : decode cX3_readLeaf 52 = .ok (.istore 5, 2) := by decide +kernel
theorem dX3_readLeaf_54 : decode cX3_readLeaf 54 = .ok (.iload 5, 2) := by decide +kernel
theorem dX3_readLeaf_56 : decode cX3_readLeaf 56 = .ok (.ifCond .lt 20, 3) := by decide +kernel
theorem dX3_readLeaf_59 : decode cX3_readLeaf 59 = .ok (.aload_n 0, 1) := by decide +kernel
theorem dX3_readLeaf_60 : decode cX3_readLeaf 60 = .ok (.invokevirtual 67, 3) := by decide +kernel
theorem dX3_readLeaf_63 : decode cX3_readLeaf 63 = .ok (.ifCond .eq 13, 3) := by decide +kernel
theorem dX3_readLeaf_66 : decode cX3_readLeaf 66 = .ok (.aload_n 1, 1) := by decide +kernel
theorem dX3_readLeaf_67 : decode cX3_readLeaf 67 = .ok (.iload_n 2, 1) := by decide +kernel
theorem dX3_readLeaf_68 : decode cX3_readLeaf 68 = .ok (.iload_n 3, 1) := by decide +kernel
theorem dX3_readLeaf_69 : decode cX3_readLeaf 69 = .ok (.iload 4, 2) := by decide +kernel
theorem dX3_readLeaf_71 : decode cX3_readLeaf 71 = .ok (.iload 5, 2) := by decide +kernel
theorem dX3_readLeaf_73 : decode cX3_readLeaf 73 = .ok (.invokevirtual 93, 3) := by decide +kernel
theorem dX3_readLeaf_76 : decode cX3_readLeaf 76 = .ok (.return_, 1) := by decide +kernel
theorem dX3_numberNamed_0 : decode cX3_numberNamed 0 = .ok (.aload_n 0, 1) := by decide +kernel
theorem dX3_numberNamed_1 : decode cX3_numberNamed 1 = .ok (.aload_n 1, 1) := by decide +kernel
theorem dX3_numberNamed_2 : decode cX3_numberNamed 2 = .ok (.invokevirtual 41, 3) := by decide +kernel
theorem dX3_numberNamed_5 : decode cX3_numberNamed 5 = .ok (.ifCond .ne 5, 3) := by decide +kernel
theorem dX3_numberNamed_8 : decode cX3_numberNamed 8 = .ok (.iload_n 3, 1) := by decide +kernel
theorem dX3_numberNamed_9 : decode cX3_numberNamed 9 = .ok (.ireturn, 1) := by decide +kernel
theorem dX3_numberNamed_10 : decode cX3_numberNamed 10 = .ok (.aload_n 0, 1) := by decide +kernel
theorem dX3_numberNamed_11 : decode cX3_numberNamed 11 = .ok (.invokevirtual 22, 3) := by decide +kernel
theorem dX3_numberNamed_14 : decode cX3_numberNamed 14 = .ok (.aload_n 0, 1) := by decide +kernel
theorem dX3_numberNamed_15 : decode cX3_numberNamed 15 = .ok (.iload_n 2, 1) := by decide +kernel
theorem dX3_numberNamed_16 : decode cX3_numberNamed 16 = .ok (.invokevirtual 64, 3) := by decide +kernel
theorem dX3_numberNamed_19 : decode cX3_numberNamed 19 = .ok (.ireturn, 1) := by decide +kernel
theorem dX3_number_0 : decode cX3_number 0 = .ok (.aload_n 0, 1) := by decide +kernel
theorem dX3_number_1 : decode cX3_number 1 = .ok (.getfield 25, 3) := by decide +kernel
theorem dX3_number_4 : decode cX3_number 4 = .ok (.iconst 2, 1) := by decide +kernel
theorem dX3_number_5 : decode cX3_number 5 = .ok (.if_icmp .ne 23, 3) := by decide +kernel
theorem dX3_number_8 : decode cX3_number 8 = .ok (.aload_n 0, 1) := by decide +kernel
theorem dX3_number_9 : decode cX3_number 9 = .ok (.getfield 15, 3) := by decide +kernel
theorem dX3_number_12 : decode cX3_number 12 = .ok (.aload_n 0, 1) := by decide +kernel
theorem dX3_number_13 : decode cX3_number 13 = .ok (.getfield 57, 3) := by decide +kernel
theorem dX3_number_16 : decode cX3_number 16 = .ok (.isub, 1) := by decide +kernel
theorem dX3_number_17 : decode cX3_number 17 = .ok (.iconst 3, 1) := by decide +kernel
theorem dX3_number_18 : decode cX3_number 18 = .ok (.if_icmp .gt 10, 3) := by decide +kernel
theorem dX3_number_21 : decode cX3_number 21 = .ok (.aload_n 0, 1) := by decide +kernel
theorem dX3_number_22 : decode cX3_number 22 = .ok (.invokevirtual 97, 3) := by decide +kernel
theorem dX3_number_25 : decode cX3_number 25 = .ok (.goto 6, 3) := by decide +kernel
theorem dX3_number_28 : decode cX3_number 28 = .ok (.iload_n 1, 1) := by decide +kernel
theorem dX3_number_29 : decode cX3_number 29 = .ok (.iconst 1, 1) := by decide +kernel
theorem dX3_number_30 : decode cX3_number 30 = .ok (.iadd, 1) := by decide +kernel
theorem dX3_number_31 : decode cX3_number 31 = .ok (.istore_n 2, 1) := by decide +kernel
theorem dX3_number_32 : decode cX3_number 32 = .ok (.iload_n 2, 1) := by decide +kernel
theorem dX3_number_33 : decode cX3_number 33 = .ok (.iload_n 1, 1) := by decide +kernel
theorem dX3_number_34 : decode cX3_number 34 = .ok (.if_icmp .le 13, 3) := by decide +kernel
theorem dX3_number_37 : decode cX3_number 37 = .ok (.aload_n 0, 1) := by decide +kernel
theorem dX3_number_38 : decode cX3_number 38 = .ok (.aload_n 0, 1) := by decide +kernel
theorem dX3_number_39 : decode cX3_number 39 = .ok (.getfield 57, 3) := by decide +kernel
theorem dX3_number_42 : decode cX3_number 42 = .ok (.putfield 19, 3) := by decide +kernel
theorem dX3_number_45 : decode cX3_number 45 = .ok (.iconst (-1), 1) := by decide +kernel
theorem dX3_number_46 : decode cX3_number 46 = .ok (.ireturn, 1) := by decide +kernel
theorem dX3_number_47 : decode cX3_number 47 = .ok (.aload_n 0, 1) := by decide +kernel
theorem dX3_number_48 : decode cX3_number 48 = .ok (.invokevirtual 22, 3) := by decide +kernel
theorem dX3_number_51 : decode cX3_number 51 = .ok (.iload_n 2, 1) := by decide +kernel
theorem dX3_number_52 : decode cX3_number 52 = .ok (.ireturn, 1) := by decide +kernel
theorem dX3_value_0 : decode cX3_value 0 = .ok (.iconst 0, 1) := by decide +kernel
theorem dX3_value_1 : decode cX3_value 1 = .ok (.istore_n 1, 1) := by decide +kernel
theorem dX3_value_2 : decode cX3_value 2 = .ok (.aload_n 0, 1) := by decide +kernel
theorem dX3_value_3 : decode cX3_value 3 = .ok (.getfield 57, 3) := by decide +kernel
theorem dX3_value_6 : decode cX3_value 6 = .ok (.istore_n 2, 1) := by decide +kernel
theorem dX3_value_7 : decode cX3_value 7 = .ok (.iload_n 2, 1) := by decide +kernel
theorem dX3_value_8 : decode cX3_value 8 = .ok (.aload_n 0, 1) := by decide +kernel
theorem dX3_value_9 : decode cX3_value 9 = .ok (.getfield 15, 3) := by decide +kernel
theorem dX3_value_12 : decode cX3_value 12 = .ok (.if_icmp .ge 31, 3) := by decide +kernel
theorem dX3_value_15 : decode cX3_value 15 = .ok (.iload_n 2, 1) := by decide +kernel
theorem dX3_value_16 : decode cX3_value 16 = .ok (.sipush 200, 3) := by decide +kernel
theorem dX3_value_19 : decode cX3_value 19 = .ok (.if_icmp .ge 24, 3) := by decide +kernel
theorem dX3_value_22 : decode cX3_value 22 = .ok (.iload_n 1, 1) := by decide +kernel
theorem dX3_value_23 : decode cX3_value 23 = .ok (.bipush 10, 2) := by decide +kernel
theorem dX3_value_25 : decode cX3_value 25 = .ok (.imul, 1) := by decide +kernel
theorem dX3_value_26 : decode cX3_value 26 = .ok (.aload_n 0, 1) := by decide +kernel
theorem dX3_value_27 : decode cX3_value 27 = .ok (.getfield 9, 3) := by decide +kernel
theorem dX3_value_30 : decode cX3_value 30 = .ok (.iload_n 2, 1) := by decide +kernel
theorem dX3_value_31 : decode cX3_value 31 = .ok (.baload, 1) := by decide +kernel
theorem dX3_value_32 : decode cX3_value 32 = .ok (.iadd, 1) := by decide +kernel
theorem dX3_value_33 : decode cX3_value 33 = .ok (.bipush 48, 2) := by decide +kernel
theorem dX3_value_35 : decode cX3_value 35 = .ok (.isub, 1) := by decide +kernel
theorem dX3_value_36 : decode cX3_value 36 = .ok (.istore_n 1, 1) := by decide +kernel
theorem dX3_value_37 : decode cX3_value 37 = .ok (.iinc 2 1, 3) := by decide +kernel
theorem dX3_value_40 : decode cX3_value 40 = .ok (.goto (-33), 3) := by decide +kernel
theorem dX3_value_43 : decode cX3_value 43 = .ok (.iload_n 1, 1) := by decide +kernel
theorem dX3_value_44 : decode cX3_value 44 = .ok (.ireturn, 1) := by decide +kernel
theorem dX3_passName_0 : decode cX3_passName 0 = .ok (.aload_n 0, 1) := by decide +kernel
theorem dX3_passName_1 : decode cX3_passName 1 = .ok (.aload_n 1, 1) := by decide +kernel
theorem dX3_passName_2 : decode cX3_passName 2 = .ok (.invokevirtual 41, 3) := by decide +kernel
theorem dX3_passName_5 : decode cX3_passName 5 = .ok (.istore_n 2, 1) := by decide +kernel
theorem dX3_passName_6 : decode cX3_passName 6 = .ok (.iload_n 2, 1) := by decide +kernel
theorem dX3_passName_7 : decode cX3_passName 7 = .ok (.ifCond .eq 10, 3) := by decide +kernel
theorem dX3_passName_10 : decode cX3_passName 10 = .ok (.aload_n 0, 1) := by decide +kernel
theorem dX3_passName_11 : decode cX3_passName 11 = .ok (.invokevirtual 22, 3) := by decide +kernel
theorem dX3_passName_14 : decode cX3_passName 14 = .ok (.goto 11, 3) := by decide +kernel
theorem dX3_passName_17 : decode cX3_passName 17 = .ok (.aload_n 0, 1) := by decide +kernel
theorem dX3_passName_18 : decode cX3_passName 18 = .ok (.aload_n 0, 1) := by decide +kernel
theorem dX3_passName_19 : decode cX3_passName 19 = .ok (.getfield 57, 3) := by decide +kernel
theorem dX3_passName_22 : decode cX3_passName 22 = .ok (.putfield 19, 3) := by decide +kernel
theorem dX3_passName_25 : decode cX3_passName 25 = .ok (.iload_n 2, 1) := by decide +kernel
theorem dX3_passName_26 : decode cX3_passName 26 = .ok (.ireturn, 1) := by decide +kernel
theorem dX3_passSemicolon_0 : decode cX3_passSemicolon 0 = .ok (.aload_n 0, 1) := by decide +kernel
theorem dX3_passSemicolon_1 : decode cX3_passSemicolon 1 = .ok (.getfield 25, 3) := by decide +kernel
theorem dX3_passSemicolon_4 : decode cX3_passSemicolon 4 = .ok (.iconst 3, 1) := by decide +kernel
theorem dX3_passSemicolon_5 : decode cX3_passSemicolon 5 = .ok (.if_icmp .ne 31, 3) := by decide +kernel
theorem dX3_passSemicolon_8 : decode cX3_passSemicolon 8 = .ok (.aload_n 0, 1) := by decide +kernel
theorem dX3_passSemicolon_9 : decode cX3_passSemicolon 9 = .ok (.getfield 57, 3) := by decide +kernel
theorem dX3_passSemicolon_12 : decode cX3_passSemicolon 12 = .ok (.sipush 200, 3) := by decide +kernel
theorem dX3_passSemicolon_15 : decode cX3_passSemicolon 15 = .ok (.if_icmp .ge 21, 3) := by decide +kernel
theorem dX3_passSemicolon_18 : decode cX3_passSemicolon 18 = .ok (.aload_n 0, 1) := by decide +kernel
theorem dX3_passSemicolon_19 : decode cX3_passSemicolon 19 = .ok (.getfield 9, 3) := by decide +kernel
theorem dX3_passSemicolon_22 : decode cX3_passSemicolon 22 = .ok (.aload_n 0, 1) := by decide +kernel
theorem dX3_passSemicolon_23 : decode cX3_passSemicolon 23 = .ok (.getfield 57, 3) := by decide +kernel
theorem dX3_passSemicolon_26 : decode cX3_passSemicolon 26 = .ok (.baload, 1) := by decide +kernel
theorem dX3_passSemicolon_27 : decode cX3_passSemicolon 27 = .ok (.bipush 59, 2) := by decide +kernel
theorem dX3_passSemicolon_29 : decode cX3_passSemicolon 29 = .ok (.if_icmp .ne 7, 3) := by decide +kernel
theorem dX3_passSemicolon_32 : decode cX3_passSemicolon 32 = .ok (.iconst 1, 1) := by decide +kernel
theorem dX3_passSemicolon_33 : decode cX3_passSemicolon 33 = .ok (.goto 4, 3) := by decide +kernel
theorem dX3_passSemicolon_36 : decode cX3_passSemicolon 36 = .ok (.iconst 0, 1) := by decide +kernel
theorem dX3_passSemicolon_37 : decode cX3_passSemicolon 37 = .ok (.istore_n 1, 1) := by decide +kernel
theorem dX3_passSemicolon_38 : decode cX3_passSemicolon 38 = .ok (.iload_n 1, 1) := by decide +kernel
theorem dX3_passSemicolon_39 : decode cX3_passSemicolon 39 = .ok (.ifCond .eq 10, 3) := by decide +kernel
theorem dX3_passSemicolon_42 : decode cX3_passSemicolon 42 = .ok (.aload_n 0, 1) := by decide +kernel
theorem dX3_passSemicolon_43 : decode cX3_passSemicolon 43 = .ok (.invokevirtual 22, 3) := by decide +kernel
theorem dX3_passSemicolon_46 : decode cX3_passSemicolon 46 = .ok (.goto 11, 3) := by decide +kernel
theorem dX3_passSemicolon_49 : decode cX3_passSemicolon 49 = .ok (.aload_n 0, 1) := by decide +kernel
theorem dX3_passSemicolon_50 : decode cX3_passSemicolon 50 = .ok (.aload_n 0, 1) := by decide +kernel
theorem dX3_passSemicolon_51 : decode cX3_passSemicolon 51 = .ok (.getfield 57, 3) := by decide +kernel
theorem dX3_passSemicolon_54 : decode cX3_passSemicolon 54 = .ok (.putfield 19, 3) := by decide +kernel
theorem dX3_passSemicolon_57 : decode cX3_passSemicolon 57 = .ok (.iload_n 1, 1) := by decide +kernel
theorem dX3_passSemicolon_58 : decode cX3_passSemicolon 58 = .ok (.ireturn, 1) := by decide +kernel
theorem dX3_isName_0 : decode cX3_isName 0 = .ok (.aload_n 0, 1) := by decide +kernel
theorem dX3_isName_1 : decode cX3_isName 1 = .ok (.getfield 25, 3) := by decide +kernel
theorem dX3_isName_4 : decode cX3_isName 4 = .ok (.iconst 1, 1) := by decide +kernel
theorem dX3_isName_5 : decode cX3_isName 5 = .ok (.if_icmp .ne 29, 3) := by decide +kernel
theorem dX3_isName_8 : decode cX3_isName 8 = .ok (.aload_n 0, 1) := by decide +kernel
theorem dX3_isName_9 : decode cX3_isName 9 = .ok (.getfield 15, 3) := by decide +kernel
theorem dX3_isName_12 : decode cX3_isName 12 = .ok (.aload_n 0, 1) := by decide +kernel
theorem dX3_isName_13 : decode cX3_isName 13 = .ok (.getfield 57, 3) := by decide +kernel
theorem dX3_isName_16 : decode cX3_isName 16 = .ok (.isub, 1) := by decide +kernel
theorem dX3_isName_17 : decode cX3_isName 17 = .ok (.aload_n 1, 1) := by decide +kernel
theorem dX3_isName_18 : decode cX3_isName 18 = .ok (.invokevirtual 100, 3) := by decide +kernel
theorem dX3_isName_21 : decode cX3_isName 21 = .ok (.if_icmp .ne 13, 3) := by decide +kernel
theorem dX3_isName_24 : decode cX3_isName 24 = .ok (.aload_n 0, 1) := by decide +kernel
theorem dX3_isName_25 : decode cX3_isName 25 = .ok (.getfield 15, 3) := by decide +kernel
theorem dX3_isName_28 : decode cX3_isName 28 = .ok (.sipush 200, 3) := by decide +kernel
theorem dX3_isName_31 : decode cX3_isName 31 = .ok (.if_icmp .le 5, 3) := by decide +kernel
theorem dX3_isName_34 : decode cX3_isName 34 = .ok (.iconst 0, 1) := by decide +kernel
theorem dX3_isName_35 : decode cX3_isName 35 = .ok (.ireturn, 1) := by decide +kernel
theorem dX3_isName_36 : decode cX3_isName 36 = .ok (.iconst 0, 1) := by decide +kernel
theorem dX3_isName_37 : decode cX3_isName 37 = .ok (.istore_n 2, 1) := by decide +kernel
theorem dX3_isName_38 : decode cX3_isName 38 = .ok (.iload_n 2, 1) := by decide +kernel
theorem dX3_isName_39 : decode cX3_isName 39 = .ok (.aload_n 1, 1) := by decide +kernel
theorem dX3_isName_40 : decode cX3_isName 40 = .ok (.invokevirtual 100, 3) := by decide +kernel
theorem dX3_isName_43 : decode cX3_isName 43 = .ok (.if_icmp .ge 30, 3) := by decide +kernel
theorem dX3_isName_46 : decode cX3_isName 46 = .ok (.aload_n 0, 1) := by decide +kernel
theorem dX3_isName_47 : decode cX3_isName 47 = .ok (.getfield 9, 3) := by decide +kernel
theorem dX3_isName_50 : decode cX3_isName 50 = .ok (.aload_n 0, 1) := by decide +kernel
theorem dX3_isName_51 : decode cX3_isName 51 = .ok (.getfield 57, 3) := by decide +kernel
theorem dX3_isName_54 : decode cX3_isName 54 = .ok (.iload_n 2, 1) := by decide +kernel
theorem dX3_isName_55 : decode cX3_isName 55 = .ok (.iadd, 1) := by decide +kernel
theorem dX3_isName_56 : decode cX3_isName 56 = .ok (.baload, 1) := by decide +kernel
theorem dX3_isName_57 : decode cX3_isName 57 = .ok (.aload_n 1, 1) := by decide +kernel
theorem dX3_isName_58 : decode cX3_isName 58 = .ok (.iload_n 2, 1) := by decide +kernel
theorem dX3_isName_59 : decode cX3_isName 59 = .ok (.invokevirtual 105, 3) := by decide +kernel
theorem dX3_isName_62 : decode cX3_isName 62 = .ok (.if_icmp .eq 5, 3) := by decide +kernel
theorem dX3_isName_65 : decode cX3_isName 65 = .ok (.iconst 0, 1) := by decide +kernel
theorem dX3_isName_66 : decode cX3_isName 66 = .ok (.ireturn, 1) := by decide +kernel
theorem dX3_isName_67 : decode cX3_isName 67 = .ok (.iinc 2 1, 3) := by decide +kernel
theorem dX3_isName_70 : decode cX3_isName 70 = .ok (.goto (-32), 3) := by decide +kernel
theorem dX3_isName_73 : decode cX3_isName 73 = .ok (.iconst 1, 1) := by decide +kernel
theorem dX3_isName_74 : decode cX3_isName 74 = .ok (.ireturn, 1) := by decide +kernel
theorem dX3_lawNamed_0 : decode cX3_lawNamed 0 = .ok (.aload_n 0, 1) := by decide +kernel
theorem dX3_lawNamed_1 : decode cX3_lawNamed 1 = .ok (.ldc 109, 2) := by decide +kernel
theorem dX3_lawNamed_3 : decode cX3_lawNamed 3 = .ok (.invokevirtual 41, 3) := by decide +kernel
theorem dX3_lawNamed_6 : decode cX3_lawNamed 6 = .ok (.ifCond .eq 7, 3) := by decide +kernel
theorem dX3_lawNamed_9 : decode cX3_lawNamed 9 = .ok (.iconst 0, 1) := by decide +kernel
theorem dX3_lawNamed_10 : decode cX3_lawNamed 10 = .ok (.goto 43, 3) := by decide +kernel
theorem dX3_lawNamed_13 : decode cX3_lawNamed 13 = .ok (.aload_n 0, 1) := by decide +kernel
theorem dX3_lawNamed_14 : decode cX3_lawNamed 14 = .ok (.ldc 111, 2) := by decide +kernel
theorem dX3_lawNamed_16 : decode cX3_lawNamed 16 = .ok (.invokevirtual 41, 3) := by decide +kernel
theorem dX3_lawNamed_19 : decode cX3_lawNamed 19 = .ok (.ifCond .eq 7, 3) := by decide +kernel
theorem dX3_lawNamed_22 : decode cX3_lawNamed 22 = .ok (.iconst 1, 1) := by decide +kernel
theorem dX3_lawNamed_23 : decode cX3_lawNamed 23 = .ok (.goto 30, 3) := by decide +kernel
theorem dX3_lawNamed_26 : decode cX3_lawNamed 26 = .ok (.aload_n 0, 1) := by decide +kernel
theorem dX3_lawNamed_27 : decode cX3_lawNamed 27 = .ok (.ldc 113, 2) := by decide +kernel
theorem dX3_lawNamed_29 : decode cX3_lawNamed 29 = .ok (.invokevirtual 41, 3) := by decide +kernel
theorem dX3_lawNamed_32 : decode cX3_lawNamed 32 = .ok (.ifCond .eq 7, 3) := by decide +kernel
theorem dX3_lawNamed_35 : decode cX3_lawNamed 35 = .ok (.iconst 2, 1) := by decide +kernel
theorem dX3_lawNamed_36 : decode cX3_lawNamed 36 = .ok (.goto 17, 3) := by decide +kernel
theorem dX3_lawNamed_39 : decode cX3_lawNamed 39 = .ok (.aload_n 0, 1) := by decide +kernel
theorem dX3_lawNamed_40 : decode cX3_lawNamed 40 = .ok (.ldc 115, 2) := by decide +kernel
theorem dX3_lawNamed_42 : decode cX3_lawNamed 42 = .ok (.invokevirtual 41, 3) := by decide +kernel
theorem dX3_lawNamed_45 : decode cX3_lawNamed 45 = .ok (.ifCond .eq 7, 3) := by decide +kernel
theorem dX3_lawNamed_48 : decode cX3_lawNamed 48 = .ok (.iconst 3, 1) := by decide +kernel
theorem dX3_lawNamed_49 : decode cX3_lawNamed 49 = .ok (.goto 4, 3) := by decide +kernel
theorem dX3_lawNamed_52 : decode cX3_lawNamed 52 = .ok (.iconst (-1), 1) := by decide +kernel
theorem dX3_lawNamed_53 : decode cX3_lawNamed 53 = .ok (.ireturn, 1) := by decide +kernel
theorem dX3_kindNamed_0 : decode cX3_kindNamed 0 = .ok (.iconst 0, 1) := by decide +kernel
theorem dX3_kindNamed_1 : decode cX3_kindNamed 1 = .ok (.istore_n 1, 1) := by decide +kernel
theorem dX3_kindNamed_2 : decode cX3_kindNamed 2 = .ok (.iload_n 1, 1) := by decide +kernel
theorem dX3_kindNamed_3 : decode cX3_kindNamed 3 = .ok (.bipush 6, 2) := by decide +kernel
theorem dX3_kindNamed_5 : decode cX3_kindNamed 5 = .ok (.if_icmp .ge 22, 3) := by decide +kernel
theorem dX3_kindNamed_8 : decode cX3_kindNamed 8 = .ok (.aload_n 0, 1) := by decide +kernel
theorem dX3_kindNamed_9 : decode cX3_kindNamed 9 = .ok (.iload_n 1, 1) := by decide +kernel
theorem dX3_kindNamed_10 : decode cX3_kindNamed 10 = .ok (.invokestatic 117, 3) := by decide +kernel
theorem dX3_kindNamed_13 : decode cX3_kindNamed 13 = .ok (.invokevirtual 41, 3) := by decide +kernel
theorem dX3_kindNamed_16 : decode cX3_kindNamed 16 = .ok (.ifCond .eq 5, 3) := by decide +kernel
theorem dX3_kindNamed_19 : decode cX3_kindNamed 19 = .ok (.iload_n 1, 1) := by decide +kernel
theorem dX3_kindNamed_20 : decode cX3_kindNamed 20 = .ok (.ireturn, 1) := by decide +kernel
theorem dX3_kindNamed_21 : decode cX3_kindNamed 21 = .ok (.iinc 1 1, 3) := by decide +kernel
theorem dX3_kindNamed_24 : decode cX3_kindNamed 24 = .ok (.goto (-22), 3) := by decide +kernel
theorem dX3_kindNamed_27 : decode cX3_kindNamed 27 = .ok (.iconst (-1), 1) := by decide +kernel
theorem dX3_kindNamed_28 : decode cX3_kindNamed 28 = .ok (.ireturn, 1) := by decide +kernel
theorem dX3_kindName_0 : decode cX3_kindName 0 = .ok (.iload_n 0, 1) := by decide +kernel
theorem dX3_kindName_1 : decode cX3_kindName 1 = .ok (.tableswitch 50 1 5 #[35, 38, 41, 44, 47], 35) := by decide +kernel
theorem dX3_kindName_36 : decode cX3_kindName 36 = .ok (.ldc 121, 2) := by decide +kernel
theorem dX3_kindName_38 : decode cX3_kindName 38 = .ok (.areturn, 1) := by decide +kernel
theorem dX3_kindName_39 : decode cX3_kindName 39 = .ok (.ldc 123, 2) := by decide +kernel
theorem dX3_kindName_41 : decode cX3_kindName 41 = .ok (.areturn, 1) := by decide +kernel
theorem dX3_kindName_42 : decode cX3_kindName 42 = .ok (.ldc 125, 2) := by decide +kernel
theorem dX3_kindName_44 : decode cX3_kindName 44 = .ok (.areturn, 1) := by decide +kernel
theorem dX3_kindName_45 : decode cX3_kindName 45 = .ok (.ldc 127, 2) := by decide +kernel
theorem dX3_kindName_47 : decode cX3_kindName 47 = .ok (.areturn, 1) := by decide +kernel
theorem dX3_kindName_48 : decode cX3_kindName 48 = .ok (.ldc 129, 2) := by decide +kernel
theorem dX3_kindName_50 : decode cX3_kindName 50 = .ok (.areturn, 1) := by decide +kernel
theorem dX3_kindName_51 : decode cX3_kindName 51 = .ok (.ldc 131, 2) := by decide +kernel
theorem dX3_kindName_53 : decode cX3_kindName 53 = .ok (.areturn, 1) := by decide +kernel
theorem dX3_step_0 : decode cX3_step 0 = .ok (.aload_n 0, 1) := by decide +kernel
theorem dX3_step_1 : decode cX3_step 1 = .ok (.aload_n 0, 1) := by decide +kernel
theorem dX3_step_2 : decode cX3_step 2 = .ok (.getfield 15, 3) := by decide +kernel
theorem dX3_step_5 : decode cX3_step 5 = .ok (.putfield 57, 3) := by decide +kernel
theorem dX3_step_8 : decode cX3_step 8 = .ok (.aload_n 0, 1) := by decide +kernel
theorem dX3_step_9 : decode cX3_step 9 = .ok (.getfield 57, 3) := by decide +kernel
theorem dX3_step_12 : decode cX3_step 12 = .ok (.aload_n 0, 1) := by decide +kernel
theorem dX3_step_13 : decode cX3_step 13 = .ok (.getfield 133, 3) := by decide +kernel
theorem dX3_step_16 : decode cX3_step 16 = .ok (.if_icmp .ge 30, 3) := by decide +kernel
theorem dX3_step_19 : decode cX3_step 19 = .ok (.aload_n 0, 1) := by decide +kernel
theorem dX3_step_20 : decode cX3_step 20 = .ok (.getfield 9, 3) := by decide +kernel
theorem dX3_step_23 : decode cX3_step 23 = .ok (.aload_n 0, 1) := by decide +kernel
theorem dX3_step_24 : decode cX3_step 24 = .ok (.getfield 57, 3) := by decide +kernel
theorem dX3_step_27 : decode cX3_step 27 = .ok (.baload, 1) := by decide +kernel
theorem dX3_step_28 : decode cX3_step 28 = .ok (.bipush 32, 2) := by decide +kernel
theorem dX3_step_30 : decode cX3_step 30 = .ok (.if_icmp .ne 16, 3) := by decide +kernel
theorem dX3_step_33 : decode cX3_step 33 = .ok (.aload_n 0, 1) := by decide +kernel
theorem dX3_step_34 : decode cX3_step 34 = .ok (.dup, 1) := by decide +kernel
theorem dX3_step_35 : decode cX3_step 35 = .ok (.getfield 57, 3) := by decide +kernel
theorem dX3_step_38 : decode cX3_step 38 = .ok (.iconst 1, 1) := by decide +kernel
theorem dX3_step_39 : decode cX3_step 39 = .ok (.iadd, 1) := by decide +kernel
theorem dX3_step_40 : decode cX3_step 40 = .ok (.putfield 57, 3) := by decide +kernel
theorem dX3_step_43 : decode cX3_step 43 = .ok (.goto (-35), 3) := by decide +kernel
theorem dX3_step_46 : decode cX3_step 46 = .ok (.aload_n 0, 1) := by decide +kernel
theorem dX3_step_47 : decode cX3_step 47 = .ok (.aload_n 0, 1) := by decide +kernel
theorem dX3_step_48 : decode cX3_step 48 = .ok (.getfield 57, 3) := by decide +kernel
theorem dX3_step_51 : decode cX3_step 51 = .ok (.putfield 15, 3) := by decide +kernel
theorem dX3_step_54 : decode cX3_step 54 = .ok (.aload_n 0, 1) := by decide +kernel
theorem dX3_step_55 : decode cX3_step 55 = .ok (.aload_n 0, 1) := by decide +kernel
theorem dX3_step_56 : decode cX3_step 56 = .ok (.aload_n 0, 1) := by decide +kernel
theorem dX3_step_57 : decode cX3_step 57 = .ok (.getfield 57, 3) := by decide +kernel
theorem dX3_step_60 : decode cX3_step 60 = .ok (.invokevirtual 135, 3) := by decide +kernel
theorem dX3_step_63 : decode cX3_step 63 = .ok (.putfield 25, 3) := by decide +kernel
theorem dX3_step_66 : decode cX3_step 66 = .ok (.aload_n 0, 1) := by decide +kernel
theorem dX3_step_67 : decode cX3_step 67 = .ok (.getfield 25, 3) := by decide +kernel
theorem dX3_step_70 : decode cX3_step 70 = .ok (.ifCond .ne 4, 3) := by decide +kernel
theorem dX3_step_73 : decode cX3_step 73 = .ok (.return_, 1) := by decide +kernel
theorem dX3_step_74 : decode cX3_step 74 = .ok (.aload_n 0, 1) := by decide +kernel
theorem dX3_step_75 : decode cX3_step 75 = .ok (.dup, 1) := by decide +kernel
theorem dX3_step_76 : decode cX3_step 76 = .ok (.getfield 15, 3) := by decide +kernel
theorem dX3_step_79 : decode cX3_step 79 = .ok (.iconst 1, 1) := by decide +kernel
theorem dX3_step_80 : decode cX3_step 80 = .ok (.iadd, 1) := by decide +kernel
theorem dX3_step_81 : decode cX3_step 81 = .ok (.putfield 15, 3) := by decide +kernel
theorem dX3_step_84 : decode cX3_step 84 = .ok (.aload_n 0, 1) := by decide +kernel
theorem dX3_step_85 : decode cX3_step 85 = .ok (.getfield 25, 3) := by decide +kernel
theorem dX3_step_88 : decode cX3_step 88 = .ok (.iconst 3, 1) := by decide +kernel
theorem dX3_step_89 : decode cX3_step 89 = .ok (.if_icmp .eq 42, 3) := by decide +kernel
theorem dX3_step_92 : decode cX3_step 92 = .ok (.aload_n 0, 1) := by decide +kernel
theorem dX3_step_93 : decode cX3_step 93 = .ok (.getfield 15, 3) := by decide +kernel
theorem dX3_step_96 : decode cX3_step 96 = .ok (.aload_n 0, 1) := by decide +kernel
theorem dX3_step_97 : decode cX3_step 97 = .ok (.getfield 133, 3) := by decide +kernel
theorem dX3_step_100 : decode cX3_step 100 = .ok (.if_icmp .ge 31, 3) := by decide +kernel
theorem dX3_step_103 : decode cX3_step 103 = .ok (.aload_n 0, 1) := by decide +kernel
theorem dX3_step_104 : decode cX3_step 104 = .ok (.aload_n 0, 1) := by decide +kernel
theorem dX3_step_105 : decode cX3_step 105 = .ok (.getfield 15, 3) := by decide +kernel
theorem dX3_step_108 : decode cX3_step 108 = .ok (.invokevirtual 135, 3) := by decide +kernel
theorem dX3_step_111 : decode cX3_step 111 = .ok (.aload_n 0, 1) := by decide +kernel
theorem dX3_step_112 : decode cX3_step 112 = .ok (.getfield 25, 3) := by decide +kernel
theorem dX3_step_115 : decode cX3_step 115 = .ok (.if_icmp .ne 16, 3) := by decide +kernel
theorem dX3_step_118 : decode cX3_step 118 = .ok (.aload_n 0, 1) := by decide +kernel
theorem dX3_step_119 : decode cX3_step 119 = .ok (.dup, 1) := by decide +kernel
theorem dX3_step_120 : decode cX3_step 120 = .ok (.getfield 15, 3) := by decide +kernel
theorem dX3_step_123 : decode cX3_step 123 = .ok (.iconst 1, 1) := by decide +kernel
theorem dX3_step_124 : decode cX3_step 124 = .ok (.iadd, 1) := by decide +kernel
theorem dX3_step_125 : decode cX3_step 125 = .ok (.putfield 15, 3) := by decide +kernel
theorem dX3_step_128 : decode cX3_step 128 = .ok (.goto (-44), 3) := by decide +kernel
theorem dX3_step_131 : decode cX3_step 131 = .ok (.return_, 1) := by decide +kernel
theorem dX3_sortAt_0 : decode cX3_sortAt 0 = .ok (.iload_n 1, 1) := by decide +kernel
theorem dX3_sortAt_1 : decode cX3_sortAt 1 = .ok (.ifCond .lt 18, 3) := by decide +kernel
theorem dX3_sortAt_4 : decode cX3_sortAt 4 = .ok (.iload_n 1, 1) := by decide +kernel
theorem dX3_sortAt_5 : decode cX3_sortAt 5 = .ok (.aload_n 0, 1) := by decide +kernel
theorem dX3_sortAt_6 : decode cX3_sortAt 6 = .ok (.getfield 133, 3) := by decide +kernel
theorem dX3_sortAt_9 : decode cX3_sortAt 9 = .ok (.if_icmp .ge 10, 3) := by decide +kernel
theorem dX3_sortAt_12 : decode cX3_sortAt 12 = .ok (.iload_n 1, 1) := by decide +kernel
theorem dX3_sortAt_13 : decode cX3_sortAt 13 = .ok (.sipush 200, 3) := by decide +kernel
theorem dX3_sortAt_16 : decode cX3_sortAt 16 = .ok (.if_icmp .lt 5, 3) := by decide +kernel
theorem dX3_sortAt_19 : decode cX3_sortAt 19 = .ok (.iconst 0, 1) := by decide +kernel
theorem dX3_sortAt_20 : decode cX3_sortAt 20 = .ok (.ireturn, 1) := by decide +kernel
theorem dX3_sortAt_21 : decode cX3_sortAt 21 = .ok (.aload_n 0, 1) := by decide +kernel
theorem dX3_sortAt_22 : decode cX3_sortAt 22 = .ok (.getfield 9, 3) := by decide +kernel
theorem dX3_sortAt_25 : decode cX3_sortAt 25 = .ok (.iload_n 1, 1) := by decide +kernel
theorem dX3_sortAt_26 : decode cX3_sortAt 26 = .ok (.baload, 1) := by decide +kernel
theorem dX3_sortAt_27 : decode cX3_sortAt 27 = .ok (.istore_n 2, 1) := by decide +kernel
theorem dX3_sortAt_28 : decode cX3_sortAt 28 = .ok (.iload_n 2, 1) := by decide +kernel
theorem dX3_sortAt_29 : decode cX3_sortAt 29 = .ok (.bipush 97, 2) := by decide +kernel
theorem dX3_sortAt_31 : decode cX3_sortAt 31 = .ok (.if_icmp .lt 13, 3) := by decide +kernel
theorem dX3_sortAt_34 : decode cX3_sortAt 34 = .ok (.iload_n 2, 1) := by decide +kernel
theorem dX3_sortAt_35 : decode cX3_sortAt 35 = .ok (.bipush 122, 2) := by decide +kernel
theorem dX3_sortAt_37 : decode cX3_sortAt 37 = .ok (.if_icmp .gt 7, 3) := by decide +kernel
theorem dX3_sortAt_40 : decode cX3_sortAt 40 = .ok (.iconst 1, 1) := by decide +kernel
theorem dX3_sortAt_41 : decode cX3_sortAt 41 = .ok (.goto 20, 3) := by decide +kernel
theorem dX3_sortAt_44 : decode cX3_sortAt 44 = .ok (.iload_n 2, 1) := by decide +kernel
theorem dX3_sortAt_45 : decode cX3_sortAt 45 = .ok (.bipush 48, 2) := by decide +kernel
theorem dX3_sortAt_47 : decode cX3_sortAt 47 = .ok (.if_icmp .lt 13, 3) := by decide +kernel
theorem dX3_sortAt_50 : decode cX3_sortAt 50 = .ok (.iload_n 2, 1) := by decide +kernel
theorem dX3_sortAt_51 : decode cX3_sortAt 51 = .ok (.bipush 57, 2) := by decide +kernel
theorem dX3_sortAt_53 : decode cX3_sortAt 53 = .ok (.if_icmp .gt 7, 3) := by decide +kernel
theorem dX3_sortAt_56 : decode cX3_sortAt 56 = .ok (.iconst 2, 1) := by decide +kernel
theorem dX3_sortAt_57 : decode cX3_sortAt 57 = .ok (.goto 4, 3) := by decide +kernel
theorem dX3_sortAt_60 : decode cX3_sortAt 60 = .ok (.iconst 3, 1) := by decide +kernel
theorem dX3_sortAt_61 : decode cX3_sortAt 61 = .ok (.ireturn, 1) := by decide +kernel
theorem dX4_init_0 : decode cX4_init 0 = .ok (.aload_n 0, 1) := by decide +kernel
theorem dX4_init_1 : decode cX4_init 1 = .ok (.invokespecial 3, 3) := by decide +kernel
theorem dX4_init_4 : decode cX4_init 4 = .ok (.aload_n 0, 1) := by decide +kernel
theorem dX4_init_5 : decode cX4_init 5 = .ok (.iconst 4, 1) := by decide +kernel
theorem dX4_init_6 : decode cX4_init 6 = .ok (.newarray .int, 2) := by decide +kernel
theorem dX4_init_8 : decode cX4_init 8 = .ok (.putfield 9, 3) := by decide +kernel
theorem dX4_init_11 : decode cX4_init 11 = .ok (.aload_n 0, 1) := by decide +kernel
theorem dX4_init_12 : decode cX4_init 12 = .ok (.bipush 6, 2) := by decide +kernel
theorem dX4_init_14 : decode cX4_init 14 = .ok (.newarray .int, 2) := by decide +kernel
theorem dX4_init_16 : decode cX4_init 16 = .ok (.putfield 15, 3) := by decide +kernel
theorem dX4_init_19 : decode cX4_init 19 = .ok (.aload_n 0, 1) := by decide +kernel
theorem dX4_init_20 : decode cX4_init 20 = .ok (.bipush 8, 2) := by decide +kernel
theorem dX4_init_22 : decode cX4_init 22 = .ok (.newarray .int, 2) := by decide +kernel
theorem dX4_init_24 : decode cX4_init 24 = .ok (.putfield 18, 3) := by decide +kernel
theorem dX4_init_27 : decode cX4_init 27 = .ok (.aload_n 0, 1) := by decide +kernel
theorem dX4_init_28 : decode cX4_init 28 = .ok (.bipush 8, 2) := by decide +kernel
theorem dX4_init_30 : decode cX4_init 30 = .ok (.newarray .int, 2) := by decide +kernel
theorem dX4_init_32 : decode cX4_init 32 = .ok (.putfield 21, 3) := by decide +kernel
theorem dX4_init_35 : decode cX4_init 35 = .ok (.aload_n 0, 1) := by decide +kernel
theorem dX4_init_36 : decode cX4_init 36 = .ok (.bipush 8, 2) := by decide +kernel
theorem dX4_init_38 : decode cX4_init 38 = .ok (.newarray .int, 2) := by decide +kernel
theorem dX4_init_40 : decode cX4_init 40 = .ok (.putfield 24, 3) := by decide +kernel
theorem dX4_init_43 : decode cX4_init 43 = .ok (.aload_n 0, 1) := by decide +kernel
theorem dX4_init_44 : decode cX4_init 44 = .ok (.bipush 8, 2) := by decide +kernel
theorem dX4_init_46 : decode cX4_init 46 = .ok (.newarray .int, 2) := by decide +kernel
theorem dX4_init_48 : decode cX4_init 48 = .ok (.putfield 27, 3) := by decide +kernel
theorem dX4_init_51 : decode cX4_init 51 = .ok (.aload_n 0, 1) := by decide +kernel
theorem dX4_init_52 : decode cX4_init 52 = .ok (.bipush 8, 2) := by decide +kernel
theorem dX4_init_54 : decode cX4_init 54 = .ok (.newarray .int, 2) := by decide +kernel
theorem dX4_init_56 : decode cX4_init 56 = .ok (.putfield 30, 3) := by decide +kernel
theorem dX4_init_59 : decode cX4_init 59 = .ok (.aload_n 0, 1) := by decide +kernel
theorem dX4_init_60 : decode cX4_init 60 = .ok (.iconst 1, 1) := by decide +kernel
theorem dX4_init_61 : decode cX4_init 61 = .ok (.putfield 33, 3) := by decide +kernel
theorem dX4_init_64 : decode cX4_init 64 = .ok (.aload_n 0, 1) := by decide +kernel
theorem dX4_init_65 : decode cX4_init 65 = .ok (.invokevirtual 37, 3) := by decide +kernel
theorem dX4_init_68 : decode cX4_init 68 = .ok (.return_, 1) := by decide +kernel
theorem dX4_clear_0 : decode cX4_clear 0 = .ok (.aload_n 0, 1) := by decide +kernel
theorem dX4_clear_1 : decode cX4_clear 1 = .ok (.getfield 9, 3) := by decide +kernel
theorem dX4_clear_4 : decode cX4_clear 4 = .ok (.iconst 0, 1) := by decide +kernel
theorem dX4_clear_5 : decode cX4_clear 5 = .ok (.iconst 2, 1) := by decide +kernel
theorem dX4_clear_6 : decode cX4_clear 6 = .ok (.iastore, 1) := by decide +kernel
theorem dX4_clear_7 : decode cX4_clear 7 = .ok (.aload_n 0, 1) := by decide +kernel
theorem dX4_clear_8 : decode cX4_clear 8 = .ok (.getfield 9, 3) := by decide +kernel
theorem dX4_clear_11 : decode cX4_clear 11 = .ok (.iconst 1, 1) := by decide +kernel
theorem dX4_clear_12 : decode cX4_clear 12 = .ok (.iconst 1, 1) := by decide +kernel
theorem dX4_clear_13 : decode cX4_clear 13 = .ok (.iastore, 1) := by decide +kernel
theorem dX4_clear_14 : decode cX4_clear 14 = .ok (.aload_n 0, 1) := by decide +kernel
theorem dX4_clear_15 : decode cX4_clear 15 = .ok (.getfield 9, 3) := by decide +kernel
theorem dX4_clear_18 : decode cX4_clear 18 = .ok (.iconst 2, 1) := by decide +kernel
theorem dX4_clear_19 : decode cX4_clear 19 = .ok (.iconst 1, 1) := by decide +kernel
theorem dX4_clear_20 : decode cX4_clear 20 = .ok (.iastore, 1) := by decide +kernel
theorem dX4_clear_21 : decode cX4_clear 21 = .ok (.aload_n 0, 1) := by decide +kernel
theorem dX4_clear_22 : decode cX4_clear 22 = .ok (.getfield 9, 3) := by decide +kernel
theorem dX4_clear_25 : decode cX4_clear 25 = .ok (.iconst 3, 1) := by decide +kernel
theorem dX4_clear_26 : decode cX4_clear 26 = .ok (.bipush 20, 2) := by decide +kernel
theorem dX4_clear_28 : decode cX4_clear 28 = .ok (.iastore, 1) := by decide +kernel
theorem dX4_clear_29 : decode cX4_clear 29 = .ok (.iconst 0, 1) := by decide +kernel
theorem dX4_clear_30 : decode cX4_clear 30 = .ok (.istore_n 1, 1) := by decide +kernel
theorem dX4_clear_31 : decode cX4_clear 31 = .ok (.iload_n 1, 1) := by decide +kernel
theorem dX4_clear_32 : decode cX4_clear 32 = .ok (.bipush 6, 2) := by decide +kernel
theorem dX4_clear_34 : decode cX4_clear 34 = .ok (.if_icmp .ge 16, 3) := by decide +kernel
theorem dX4_clear_37 : decode cX4_clear 37 = .ok (.aload_n 0, 1) := by decide +kernel
theorem dX4_clear_38 : decode cX4_clear 38 = .ok (.getfield 15, 3) := by decide +kernel
theorem dX4_clear_41 : decode cX4_clear 41 = .ok (.iload_n 1, 1) := by decide +kernel
theorem dX4_clear_42 : decode cX4_clear 42 = .ok (.iconst 1, 1) := by decide +kernel
theorem dX4_clear_43 : decode cX4_clear 43 = .ok (.iastore, 1) := by decide +kernel
theorem dX4_clear_44 : decode cX4_clear 44 = .ok (.iinc 1 1, 3) := by decide +kernel
theorem dX4_clear_47 : decode cX4_clear 47 = .ok (.goto (-16), 3) := by decide +kernel
theorem dX4_clear_50 : decode cX4_clear 50 = .ok (.aload_n 0, 1) := by decide +kernel
theorem dX4_clear_51 : decode cX4_clear 51 = .ok (.iconst 0, 1) := by decide +kernel
theorem dX4_clear_52 : decode cX4_clear 52 = .ok (.putfield 40, 3) := by decide +kernel
theorem dX4_clear_55 : decode cX4_clear 55 = .ok (.aload_n 0, 1) := by decide +kernel
theorem dX4_clear_56 : decode cX4_clear 56 = .ok (.iconst 0, 1) := by decide +kernel
theorem dX4_clear_57 : decode cX4_clear 57 = .ok (.putfield 43, 3) := by decide +kernel
theorem dX4_clear_60 : decode cX4_clear 60 = .ok (.aload_n 0, 1) := by decide +kernel
theorem dX4_clear_61 : decode cX4_clear 61 = .ok (.iconst 0, 1) := by decide +kernel
theorem dX4_clear_62 : decode cX4_clear 62 = .ok (.putfield 46, 3) := by decide +kernel
theorem dX4_clear_65 : decode cX4_clear 65 = .ok (.aload_n 0, 1) := by decide +kernel
theorem dX4_clear_66 : decode cX4_clear 66 = .ok (.iconst 0, 1) := by decide +kernel
theorem dX4_clear_67 : decode cX4_clear 67 = .ok (.putfield 49, 3) := by decide +kernel
theorem dX4_clear_70 : decode cX4_clear 70 = .ok (.return_, 1) := by decide +kernel
theorem dX4_become_0 : decode cX4_become 0 = .ok (.aload_n 1, 1) := by decide +kernel
theorem dX4_become_1 : decode cX4_become 1 = .ok (.getfield 9, 3) := by decide +kernel
theorem dX4_become_4 : decode cX4_become 4 = .ok (.iconst 0, 1) := by decide +kernel
theorem dX4_become_5 : decode cX4_become 5 = .ok (.aload_n 0, 1) := by decide +kernel
theorem dX4_become_6 : decode cX4_become 6 = .ok (.getfield 9, 3) := by decide +kernel
theorem dX4_become_9 : decode cX4_become 9 = .ok (.iconst 0, 1) := by decide +kernel
theorem dX4_become_10 : decode cX4_become 10 = .ok (.iconst 4, 1) := by decide +kernel
theorem dX4_become_11 : decode cX4_become 11 = .ok (.invokestatic 52, 3) := by decide +kernel
theorem dX4_become_14 : decode cX4_become 14 = .ok (.aload_n 1, 1) := by decide +kernel
theorem dX4_become_15 : decode cX4_become 15 = .ok (.getfield 15, 3) := by decide +kernel
theorem dX4_become_18 : decode cX4_become 18 = .ok (.iconst 0, 1) := by decide +kernel
theorem dX4_become_19 : decode cX4_become 19 = .ok (.aload_n 0, 1) := by decide +kernel
theorem dX4_become_20 : decode cX4_become 20 = .ok (.getfield 15, 3) := by decide +kernel
theorem dX4_become_23 : decode cX4_become 23 = .ok (.iconst 0, 1) := by decide +kernel
theorem dX4_become_24 : decode cX4_become 24 = .ok (.bipush 6, 2) := by decide +kernel
theorem dX4_become_26 : decode cX4_become 26 = .ok (.invokestatic 52, 3) := by decide +kernel
theorem dX4_become_29 : decode cX4_become 29 = .ok (.aload_n 1, 1) := by decide +kernel
theorem dX4_become_30 : decode cX4_become 30 = .ok (.getfield 18, 3) := by decide +kernel
theorem dX4_become_33 : decode cX4_become 33 = .ok (.iconst 0, 1) := by decide +kernel
theorem dX4_become_34 : decode cX4_become 34 = .ok (.aload_n 0, 1) := by decide +kernel
theorem dX4_become_35 : decode cX4_become 35 = .ok (.getfield 18, 3) := by decide +kernel
theorem dX4_become_38 : decode cX4_become 38 = .ok (.iconst 0, 1) := by decide +kernel
theorem dX4_become_39 : decode cX4_become 39 = .ok (.bipush 8, 2) := by decide +kernel
theorem dX4_become_41 : decode cX4_become 41 = .ok (.invokestatic 52, 3) := by decide +kernel
theorem dX4_become_44 : decode cX4_become 44 = .ok (.aload_n 1, 1) := by decide +kernel
theorem dX4_become_45 : decode cX4_become 45 = .ok (.getfield 21, 3) := by decide +kernel
theorem dX4_become_48 : decode cX4_become 48 = .ok (.iconst 0, 1) := by decide +kernel
theorem dX4_become_49 : decode cX4_become 49 = .ok (.aload_n 0, 1) := by decide +kernel
theorem dX4_become_50 : decode cX4_become 50 = .ok (.getfield 21, 3) := by decide +kernel
theorem dX4_become_53 : decode cX4_become 53 = .ok (.iconst 0, 1) := by decide +kernel
theorem dX4_become_54 : decode cX4_become 54 = .ok (.bipush 8, 2) := by decide +kernel
theorem dX4_become_56 : decode cX4_become 56 = .ok (.invokestatic 52, 3) := by decide +kernel
theorem dX4_become_59 : decode cX4_become 59 = .ok (.aload_n 1, 1) := by decide +kernel
theorem dX4_become_60 : decode cX4_become 60 = .ok (.getfield 24, 3) := by decide +kernel
theorem dX4_become_63 : decode cX4_become 63 = .ok (.iconst 0, 1) := by decide +kernel
theorem dX4_become_64 : decode cX4_become 64 = .ok (.aload_n 0, 1) := by decide +kernel
theorem dX4_become_65 : decode cX4_become 65 = .ok (.getfield 24, 3) := by decide +kernel
theorem dX4_become_68 : decode cX4_become 68 = .ok (.iconst 0, 1) := by decide +kernel
theorem dX4_become_69 : decode cX4_become 69 = .ok (.bipush 8, 2) := by decide +kernel
theorem dX4_become_71 : decode cX4_become 71 = .ok (.invokestatic 52, 3) := by decide +kernel
theorem dX4_become_74 : decode cX4_become 74 = .ok (.aload_n 1, 1) := by decide +kernel
theorem dX4_become_75 : decode cX4_become 75 = .ok (.getfield 27, 3) := by decide +kernel
theorem dX4_become_78 : decode cX4_become 78 = .ok (.iconst 0, 1) := by decide +kernel
theorem dX4_become_79 : decode cX4_become 79 = .ok (.aload_n 0, 1) := by decide +kernel
theorem dX4_become_80 : decode cX4_become 80 = .ok (.getfield 27, 3) := by decide +kernel
theorem dX4_become_83 : decode cX4_become 83 = .ok (.iconst 0, 1) := by decide +kernel
theorem dX4_become_84 : decode cX4_become 84 = .ok (.bipush 8, 2) := by decide +kernel
theorem dX4_become_86 : decode cX4_become 86 = .ok (.invokestatic 52, 3) := by decide +kernel
theorem dX4_become_89 : decode cX4_become 89 = .ok (.aload_n 1, 1) := by decide +kernel
theorem dX4_become_90 : decode cX4_become 90 = .ok (.getfield 30, 3) := by decide +kernel
theorem dX4_become_93 : decode cX4_become 93 = .ok (.iconst 0, 1) := by decide +kernel
theorem dX4_become_94 : decode cX4_become 94 = .ok (.aload_n 0, 1) := by decide +kernel
theorem dX4_become_95 : decode cX4_become 95 = .ok (.getfield 30, 3) := by decide +kernel
theorem dX4_become_98 : decode cX4_become 98 = .ok (.iconst 0, 1) := by decide +kernel
theorem dX4_become_99 : decode cX4_become 99 = .ok (.bipush 8, 2) := by decide +kernel
theorem dX4_become_101 : decode cX4_become 101 = .ok (.invokestatic 52, 3) := by decide +kernel
theorem dX4_become_104 : decode cX4_become 104 = .ok (.aload_n 0, 1) := by decide +kernel
theorem dX4_become_105 : decode cX4_become 105 = .ok (.aload_n 1, 1) := by decide +kernel
theorem dX4_become_106 : decode cX4_become 106 = .ok (.getfield 40, 3) := by decide +kernel
theorem dX4_become_109 : decode cX4_become 109 = .ok (.putfield 40, 3) := by decide +kernel
theorem dX4_become_112 : decode cX4_become 112 = .ok (.aload_n 0, 1) := by decide +kernel
theorem dX4_become_113 : decode cX4_become 113 = .ok (.aload_n 1, 1) := by decide +kernel
theorem dX4_become_114 : decode cX4_become 114 = .ok (.getfield 43, 3) := by decide +kernel
theorem dX4_become_117 : decode cX4_become 117 = .ok (.putfield 43, 3) := by decide +kernel
theorem dX4_become_120 : decode cX4_become 120 = .ok (.aload_n 0, 1) := by decide +kernel
theorem dX4_become_121 : decode cX4_become 121 = .ok (.aload_n 1, 1) := by decide +kernel
theorem dX4_become_122 : decode cX4_become 122 = .ok (.getfield 46, 3) := by decide +kernel
theorem dX4_become_125 : decode cX4_become 125 = .ok (.putfield 46, 3) := by decide +kernel
theorem dX4_become_128 : decode cX4_become 128 = .ok (.aload_n 0, 1) := by decide +kernel
theorem dX4_become_129 : decode cX4_become 129 = .ok (.aload_n 1, 1) := by decide +kernel
theorem dX4_become_130 : decode cX4_become 130 = .ok (.getfield 33, 3) := by decide +kernel
theorem dX4_become_133 : decode cX4_become 133 = .ok (.putfield 33, 3) := by decide +kernel
theorem dX4_become_136 : decode cX4_become 136 = .ok (.aload_n 0, 1) := by decide +kernel
theorem dX4_become_137 : decode cX4_become 137 = .ok (.iconst 0, 1) := by decide +kernel
theorem dX4_become_138 : decode cX4_become 138 = .ok (.putfield 49, 3) := by decide +kernel
theorem dX4_become_141 : decode cX4_become 141 = .ok (.return_, 1) := by decide +kernel
theorem dX4_grow_0 : decode cX4_grow 0 = .ok (.aload_n 0, 1) := by decide +kernel
theorem dX4_grow_1 : decode cX4_grow 1 = .ok (.getfield 40, 3) := by decide +kernel
theorem dX4_grow_4 : decode cX4_grow 4 = .ok (.bipush 8, 2) := by decide +kernel
theorem dX4_grow_6 : decode cX4_grow 6 = .ok (.if_icmp .lt 4, 3) := by decide +kernel
theorem dX4_grow_9 : decode cX4_grow 9 = .ok (.return_, 1) := by decide +kernel
theorem dX4_grow_10 : decode cX4_grow 10 = .ok (.aload_n 0, 1) := by decide +kernel
theorem dX4_grow_11 : decode cX4_grow 11 = .ok (.getfield 18, 3) := by decide +kernel
theorem dX4_grow_14 : decode cX4_grow 14 = .ok (.aload_n 0, 1) := by decide +kernel
theorem dX4_grow_15 : decode cX4_grow 15 = .ok (.getfield 40, 3) := by decide +kernel
theorem dX4_grow_18 : decode cX4_grow 18 = .ok (.iload_n 1, 1) := by decide +kernel
theorem dX4_grow_19 : decode cX4_grow 19 = .ok (.iastore, 1) := by decide +kernel
theorem dX4_grow_20 : decode cX4_grow 20 = .ok (.aload_n 0, 1) := by decide +kernel
theorem dX4_grow_21 : decode cX4_grow 21 = .ok (.getfield 21, 3) := by decide +kernel
theorem dX4_grow_24 : decode cX4_grow 24 = .ok (.aload_n 0, 1) := by decide +kernel
theorem dX4_grow_25 : decode cX4_grow 25 = .ok (.getfield 40, 3) := by decide +kernel
theorem dX4_grow_28 : decode cX4_grow 28 = .ok (.iload_n 2, 1) := by decide +kernel
theorem dX4_grow_29 : decode cX4_grow 29 = .ok (.iastore, 1) := by decide +kernel
theorem dX4_grow_30 : decode cX4_grow 30 = .ok (.aload_n 0, 1) := by decide +kernel
theorem dX4_grow_31 : decode cX4_grow 31 = .ok (.getfield 24, 3) := by decide +kernel
theorem dX4_grow_34 : decode cX4_grow 34 = .ok (.aload_n 0, 1) := by decide +kernel
theorem dX4_grow_35 : decode cX4_grow 35 = .ok (.getfield 40, 3) := by decide +kernel
theorem dX4_grow_38 : decode cX4_grow 38 = .ok (.iload_n 3, 1) := by decide +kernel
theorem dX4_grow_39 : decode cX4_grow 39 = .ok (.iastore, 1) := by decide +kernel
theorem dX4_grow_40 : decode cX4_grow 40 = .ok (.aload_n 0, 1) := by decide +kernel
theorem dX4_grow_41 : decode cX4_grow 41 = .ok (.getfield 27, 3) := by decide +kernel
theorem dX4_grow_44 : decode cX4_grow 44 = .ok (.aload_n 0, 1) := by decide +kernel
theorem dX4_grow_45 : decode cX4_grow 45 = .ok (.getfield 40, 3) := by decide +kernel
theorem dX4_grow_48 : decode cX4_grow 48 = .ok (.iload 4, 2) := by decide +kernel
theorem dX4_grow_50 : decode cX4_grow 50 = .ok (.iastore, 1) := by decide +kernel
theorem dX4_grow_51 : decode cX4_grow 51 = .ok (.aload_n 0, 1) := by decide +kernel
theorem dX4_grow_52 : decode cX4_grow 52 = .ok (.getfield 30, 3) := by decide +kernel
theorem dX4_grow_55 : decode cX4_grow 55 = .ok (.aload_n 0, 1) := by decide +kernel
theorem dX4_grow_56 : decode cX4_grow 56 = .ok (.getfield 40, 3) := by decide +kernel
theorem dX4_grow_59 : decode cX4_grow 59 = .ok (.iconst 0, 1) := by decide +kernel
theorem dX4_grow_60 : decode cX4_grow 60 = .ok (.iastore, 1) := by decide +kernel
theorem dX4_grow_61 : decode cX4_grow 61 = .ok (.aload_n 0, 1) := by decide +kernel
theorem dX4_grow_62 : decode cX4_grow 62 = .ok (.dup, 1) := by decide +kernel
theorem dX4_grow_63 : decode cX4_grow 63 = .ok (.getfield 40, 3) := by decide +kernel
theorem dX4_grow_66 : decode cX4_grow 66 = .ok (.iconst 1, 1) := by decide +kernel
theorem dX4_grow_67 : decode cX4_grow 67 = .ok (.iadd, 1) := by decide +kernel
theorem dX4_grow_68 : decode cX4_grow 68 = .ok (.putfield 40, 3) := by decide +kernel
theorem dX4_grow_71 : decode cX4_grow 71 = .ok (.return_, 1) := by decide +kernel
theorem dX4_has_0 : decode cX4_has 0 = .ok (.iload_n 1, 1) := by decide +kernel
theorem dX4_has_1 : decode cX4_has 1 = .ok (.ifCond .lt 15, 3) := by decide +kernel
theorem dX4_has_4 : decode cX4_has 4 = .ok (.iload_n 1, 1) := by decide +kernel
theorem dX4_has_5 : decode cX4_has 5 = .ok (.aload_n 0, 1) := by decide +kernel
theorem dX4_has_6 : decode cX4_has 6 = .ok (.getfield 40, 3) := by decide +kernel
theorem dX4_has_9 : decode cX4_has 9 = .ok (.if_icmp .ge 7, 3) := by decide +kernel
theorem dX4_has_12 : decode cX4_has 12 = .ok (.iconst 1, 1) := by decide +kernel
theorem dX4_has_13 : decode cX4_has 13 = .ok (.goto 4, 3) := by decide +kernel
theorem dX4_has_16 : decode cX4_has 16 = .ok (.iconst 0, 1) := by decide +kernel
theorem dX4_has_17 : decode cX4_has 17 = .ok (.ireturn, 1) := by decide +kernel
theorem dX4_hangs_0 : decode cX4_hangs 0 = .ok (.aload_n 0, 1) := by decide +kernel
theorem dX4_hangs_1 : decode cX4_hangs 1 = .ok (.getfield 30, 3) := by decide +kernel
theorem dX4_hangs_4 : decode cX4_hangs 4 = .ok (.iload_n 1, 1) := by decide +kernel
theorem dX4_hangs_5 : decode cX4_hangs 5 = .ok (.iaload, 1) := by decide +kernel
theorem dX4_hangs_6 : decode cX4_hangs 6 = .ok (.ifCond .ne 7, 3) := by decide +kernel
theorem dX4_hangs_9 : decode cX4_hangs 9 = .ok (.iconst 1, 1) := by decide +kernel
theorem dX4_hangs_10 : decode cX4_hangs 10 = .ok (.goto 4, 3) := by decide +kernel
theorem dX4_hangs_13 : decode cX4_hangs 13 = .ok (.iconst 0, 1) := by decide +kernel
theorem dX4_hangs_14 : decode cX4_hangs 14 = .ok (.ireturn, 1) := by decide +kernel
theorem dX4_hanging_0 : decode cX4_hanging 0 = .ok (.aload_n 0, 1) := by decide +kernel
theorem dX4_hanging_1 : decode cX4_hanging 1 = .ok (.getfield 40, 3) := by decide +kernel
theorem dX4_hanging_4 : decode cX4_hanging 4 = .ok (.aload_n 0, 1) := by decide +kernel
theorem dX4_hanging_5 : decode cX4_hanging 5 = .ok (.getfield 43, 3) := by decide +kernel
theorem dX4_hanging_8 : decode cX4_hanging 8 = .ok (.isub, 1) := by decide +kernel
theorem dX4_hanging_9 : decode cX4_hanging 9 = .ok (.ireturn, 1) := by decide +kernel
theorem dX4_hangingSet_0 : decode cX4_hangingSet 0 = .ok (.iconst 0, 1) := by decide +kernel
theorem dX4_hangingSet_1 : decode cX4_hangingSet 1 = .ok (.istore_n 1, 1) := by decide +kernel
theorem dX4_hangingSet_2 : decode cX4_hangingSet 2 = .ok (.iconst 0, 1) := by decide +kernel
theorem dX4_hangingSet_3 : decode cX4_hangingSet 3 = .ok (.istore_n 2, 1) := by decide +kernel
theorem dX4_hangingSet_4 : decode cX4_hangingSet 4 = .ok (.iload_n 2, 1) := by decide +kernel
theorem dX4_hangingSet_5 : decode cX4_hangingSet 5 = .ok (.aload_n 0, 1) := by decide +kernel
theorem dX4_hangingSet_6 : decode cX4_hangingSet 6 = .ok (.getfield 40, 3) := by decide +kernel
theorem dX4_hangingSet_9 : decode cX4_hangingSet 9 = .ok (.if_icmp .ge 23, 3) := by decide +kernel
theorem dX4_hangingSet_12 : decode cX4_hangingSet 12 = .ok (.aload_n 0, 1) := by decide +kernel
theorem dX4_hangingSet_13 : decode cX4_hangingSet 13 = .ok (.iload_n 2, 1) := by decide +kernel
theorem dX4_hangingSet_14 : decode cX4_hangingSet 14 = .ok (.invokevirtual 58, 3) := by decide +kernel
theorem dX4_hangingSet_17 : decode cX4_hangingSet 17 = .ok (.ifCond .eq 9, 3) := by decide +kernel
theorem dX4_hangingSet_20 : decode cX4_hangingSet 20 = .ok (.iload_n 1, 1) := by decide +kernel
theorem dX4_hangingSet_21 : decode cX4_hangingSet 21 = .ok (.iconst 1, 1) := by decide +kernel
theorem dX4_hangingSet_22 : decode cX4_hangingSet 22 = .ok (.iload_n 2, 1) := by decide +kernel
theorem dX4_hangingSet_23 : decode cX4_hangingSet 23 = .ok (.ishl, 1) := by decide +kernel
theorem dX4_hangingSet_24 : decode cX4_hangingSet 24 = .ok (.ior, 1) := by decide +kernel
theorem dX4_hangingSet_25 : decode cX4_hangingSet 25 = .ok (.istore_n 1, 1) := by decide +kernel
theorem dX4_hangingSet_26 : decode cX4_hangingSet 26 = .ok (.iinc 2 1, 3) := by decide +kernel
theorem dX4_hangingSet_29 : decode cX4_hangingSet 29 = .ok (.goto (-25), 3) := by decide +kernel
theorem dX4_hangingSet_32 : decode cX4_hangingSet 32 = .ok (.iload_n 1, 1) := by decide +kernel
theorem dX4_hangingSet_33 : decode cX4_hangingSet 33 = .ok (.ireturn, 1) := by decide +kernel
theorem dX4_hangingOn_0 : decode cX4_hangingOn 0 = .ok (.iconst 0, 1) := by decide +kernel
theorem dX4_hangingOn_1 : decode cX4_hangingOn 1 = .ok (.istore_n 2, 1) := by decide +kernel
theorem dX4_hangingOn_2 : decode cX4_hangingOn 2 = .ok (.iconst 0, 1) := by decide +kernel
theorem dX4_hangingOn_3 : decode cX4_hangingOn 3 = .ok (.istore_n 3, 1) := by decide +kernel
theorem dX4_hangingOn_4 : decode cX4_hangingOn 4 = .ok (.iload_n 3, 1) := by decide +kernel
theorem dX4_hangingOn_5 : decode cX4_hangingOn 5 = .ok (.aload_n 0, 1) := by decide +kernel
theorem dX4_hangingOn_6 : decode cX4_hangingOn 6 = .ok (.getfield 40, 3) := by decide +kernel
theorem dX4_hangingOn_9 : decode cX4_hangingOn 9 = .ok (.if_icmp .ge 33, 3) := by decide +kernel
theorem dX4_hangingOn_12 : decode cX4_hangingOn 12 = .ok (.aload_n 0, 1) := by decide +kernel
theorem dX4_hangingOn_13 : decode cX4_hangingOn 13 = .ok (.iload_n 3, 1) := by decide +kernel
theorem dX4_hangingOn_14 : decode cX4_hangingOn 14 = .ok (.invokevirtual 58, 3) := by decide +kernel
theorem dX4_hangingOn_17 : decode cX4_hangingOn 17 = .ok (.ifCond .eq 19, 3) := by decide +kernel
theorem dX4_hangingOn_20 : decode cX4_hangingOn 20 = .ok (.aload_n 0, 1) := by decide +kernel
theorem dX4_hangingOn_21 : decode cX4_hangingOn 21 = .ok (.getfield 21, 3) := by decide +kernel
theorem dX4_hangingOn_24 : decode cX4_hangingOn 24 = .ok (.iload_n 3, 1) := by decide +kernel
theorem dX4_hangingOn_25 : decode cX4_hangingOn 25 = .ok (.iaload, 1) := by decide +kernel
theorem dX4_hangingOn_26 : decode cX4_hangingOn 26 = .ok (.iload_n 1, 1) := by decide +kernel
theorem dX4_hangingOn_27 : decode cX4_hangingOn 27 = .ok (.if_icmp .ne 9, 3) := by decide +kernel
theorem dX4_hangingOn_30 : decode cX4_hangingOn 30 = .ok (.iload_n 2, 1) := by decide +kernel
theorem dX4_hangingOn_31 : decode cX4_hangingOn 31 = .ok (.iconst 1, 1) := by decide +kernel
theorem dX4_hangingOn_32 : decode cX4_hangingOn 32 = .ok (.iload_n 3, 1) := by decide +kernel
theorem dX4_hangingOn_33 : decode cX4_hangingOn 33 = .ok (.ishl, 1) := by decide +kernel
theorem dX4_hangingOn_34 : decode cX4_hangingOn 34 = .ok (.ior, 1) := by decide +kernel
theorem dX4_hangingOn_35 : decode cX4_hangingOn 35 = .ok (.istore_n 2, 1) := by decide +kernel
theorem dX4_hangingOn_36 : decode cX4_hangingOn 36 = .ok (.iinc 3 1, 3) := by decide +kernel
theorem dX4_hangingOn_39 : decode cX4_hangingOn 39 = .ok (.goto (-35), 3) := by decide +kernel
theorem dX4_hangingOn_42 : decode cX4_hangingOn 42 = .ok (.iload_n 2, 1) := by decide +kernel
theorem dX4_hangingOn_43 : decode cX4_hangingOn 43 = .ok (.ireturn, 1) := by decide +kernel
theorem dX4_boughsHungOn_0 : decode cX4_boughsHungOn 0 = .ok (.iconst 0, 1) := by decide +kernel
theorem dX4_boughsHungOn_1 : decode cX4_boughsHungOn 1 = .ok (.istore_n 1, 1) := by decide +kernel
theorem dX4_boughsHungOn_2 : decode cX4_boughsHungOn 2 = .ok (.iconst 0, 1) := by decide +kernel
theorem dX4_boughsHungOn_3 : decode cX4_boughsHungOn 3 = .ok (.istore_n 2, 1) := by decide +kernel
theorem dX4_boughsHungOn_4 : decode cX4_boughsHungOn 4 = .ok (.iload_n 2, 1) := by decide +kernel
theorem dX4_boughsHungOn_5 : decode cX4_boughsHungOn 5 = .ok (.bipush 6, 2) := by decide +kernel
theorem dX4_boughsHungOn_7 : decode cX4_boughsHungOn 7 = .ok (.if_icmp .ge 20, 3) := by decide +kernel
theorem dX4_boughsHungOn_10 : decode cX4_boughsHungOn 10 = .ok (.aload_n 0, 1) := by decide +kernel
theorem dX4_boughsHungOn_11 : decode cX4_boughsHungOn 11 = .ok (.iload_n 2, 1) := by decide +kernel
theorem dX4_boughsHungOn_12 : decode cX4_boughsHungOn 12 = .ok (.invokevirtual 62, 3) := by decide +kernel
theorem dX4_boughsHungOn_15 : decode cX4_boughsHungOn 15 = .ok (.ifCond .eq 6, 3) := by decide +kernel
theorem dX4_boughsHungOn_18 : decode cX4_boughsHungOn 18 = .ok (.iinc 1 1, 3) := by decide +kernel
theorem dX4_boughsHungOn_21 : decode cX4_boughsHungOn 21 = .ok (.iinc 2 1, 3) := by decide +kernel
theorem dX4_boughsHungOn_24 : decode cX4_boughsHungOn 24 = .ok (.goto (-20), 3) := by decide +kernel
theorem dX4_boughsHungOn_27 : decode cX4_boughsHungOn 27 = .ok (.iload_n 1, 1) := by decide +kernel
theorem dX4_boughsHungOn_28 : decode cX4_boughsHungOn 28 = .ok (.ireturn, 1) := by decide +kernel
theorem dX4_mates_0 : decode cX4_mates 0 = .ok (.aload_n 0, 1) := by decide +kernel
theorem dX4_mates_1 : decode cX4_mates 1 = .ok (.aload_n 0, 1) := by decide +kernel
theorem dX4_mates_2 : decode cX4_mates 2 = .ok (.getfield 21, 3) := by decide +kernel
theorem dX4_mates_5 : decode cX4_mates 5 = .ok (.iload_n 1, 1) := by decide +kernel
theorem dX4_mates_6 : decode cX4_mates 6 = .ok (.iaload, 1) := by decide +kernel
theorem dX4_mates_7 : decode cX4_mates 7 = .ok (.invokevirtual 62, 3) := by decide +kernel
theorem dX4_mates_10 : decode cX4_mates 10 = .ok (.iconst 1, 1) := by decide +kernel
theorem dX4_mates_11 : decode cX4_mates 11 = .ok (.iload_n 1, 1) := by decide +kernel
theorem dX4_mates_12 : decode cX4_mates 12 = .ok (.ishl, 1) := by decide +kernel
theorem dX4_mates_13 : decode cX4_mates 13 = .ok (.iconst (-1), 1) := by decide +kernel
theorem dX4_mates_14 : decode cX4_mates 14 = .ok (.ixor, 1) := by decide +kernel
theorem dX4_mates_15 : decode cX4_mates 15 = .ok (.iand, 1) := by decide +kernel
theorem dX4_mates_16 : decode cX4_mates 16 = .ok (.invokestatic 66, 3) := by decide +kernel
theorem dX4_mates_19 : decode cX4_mates 19 = .ok (.ireturn, 1) := by decide +kernel
theorem dX4_loses_0 : decode cX4_loses 0 = .ok (.iconst 1, 1) := by decide +kernel
theorem dX4_loses_1 : decode cX4_loses 1 = .ok (.aload_n 0, 1) := by decide +kernel
theorem dX4_loses_2 : decode cX4_loses 2 = .ok (.getfield 9, 3) := by decide +kernel
theorem dX4_loses_5 : decode cX4_loses 5 = .ok (.iconst 0, 1) := by decide +kernel
theorem dX4_loses_6 : decode cX4_loses 6 = .ok (.iaload, 1) := by decide +kernel
theorem dX4_loses_7 : decode cX4_loses 7 = .ok (.iadd, 1) := by decide +kernel
theorem dX4_loses_8 : decode cX4_loses 8 = .ok (.aload_n 0, 1) := by decide +kernel
theorem dX4_loses_9 : decode cX4_loses 9 = .ok (.getfield 15, 3) := by decide +kernel
theorem dX4_loses_12 : decode cX4_loses 12 = .ok (.aload_n 0, 1) := by decide +kernel
theorem dX4_loses_13 : decode cX4_loses 13 = .ok (.getfield 21, 3) := by decide +kernel
theorem dX4_loses_16 : decode cX4_loses 16 = .ok (.iload_n 1, 1) := by decide +kernel
theorem dX4_loses_17 : decode cX4_loses 17 = .ok (.iaload, 1) := by decide +kernel
theorem dX4_loses_18 : decode cX4_loses 18 = .ok (.iaload, 1) := by decide +kernel
theorem dX4_loses_19 : decode cX4_loses 19 = .ok (.iadd, 1) := by decide +kernel
theorem dX4_loses_20 : decode cX4_loses 20 = .ok (.istore_n 2, 1) := by decide +kernel
theorem dX4_loses_21 : decode cX4_loses 21 = .ok (.aload_n 0, 1) := by decide +kernel
theorem dX4_loses_22 : decode cX4_loses 22 = .ok (.getfield 18, 3) := by decide +kernel
theorem dX4_loses_25 : decode cX4_loses 25 = .ok (.iload_n 1, 1) := by decide +kernel
theorem dX4_loses_26 : decode cX4_loses 26 = .ok (.iaload, 1) := by decide +kernel
theorem dX4_loses_27 : decode cX4_loses 27 = .ok (.tableswitch 104 1 5 #[33, 53, 42, 61, 89], 33) := by decide +kernel
theorem dX4_loses_60 : decode cX4_loses 60 = .ok (.iload_n 2, 1) := by decide +kernel
theorem dX4_loses_61 : decode cX4_loses 61 = .ok (.aload_n 0, 1) := by decide +kernel
theorem dX4_loses_62 : decode cX4_loses 62 = .ok (.getfield 9, 3) := by decide +kernel
theorem dX4_loses_65 : decode cX4_loses 65 = .ok (.iconst 1, 1) := by decide +kernel
theorem dX4_loses_66 : decode cX4_loses 66 = .ok (.iaload, 1) := by decide +kernel
theorem dX4_loses_67 : decode cX4_loses 67 = .ok (.iadd, 1) := by decide +kernel
theorem dX4_loses_68 : decode cX4_loses 68 = .ok (.ireturn, 1) := by decide +kernel
theorem dX4_loses_69 : decode cX4_loses 69 = .ok (.iconst 2, 1) := by decide +kernel
theorem dX4_loses_70 : decode cX4_loses 70 = .ok (.iload_n 2, 1) := by decide +kernel
theorem dX4_loses_71 : decode cX4_loses 71 = .ok (.aload_n 0, 1) := by decide +kernel
theorem dX4_loses_72 : decode cX4_loses 72 = .ok (.getfield 9, 3) := by decide +kernel
theorem dX4_loses_75 : decode cX4_loses 75 = .ok (.iconst 1, 1) := by decide +kernel
theorem dX4_loses_76 : decode cX4_loses 76 = .ok (.iaload, 1) := by decide +kernel
theorem dX4_loses_77 : decode cX4_loses 77 = .ok (.iadd, 1) := by decide +kernel
theorem dX4_loses_78 : decode cX4_loses 78 = .ok (.imul, 1) := by decide +kernel
theorem dX4_loses_79 : decode cX4_loses 79 = .ok (.ireturn, 1) := by decide +kernel
theorem dX4_loses_80 : decode cX4_loses 80 = .ok (.iload_n 2, 1) := by decide +kernel
theorem dX4_loses_81 : decode cX4_loses 81 = .ok (.aload_n 0, 1) := by decide +kernel
theorem dX4_loses_82 : decode cX4_loses 82 = .ok (.iload_n 1, 1) := by decide +kernel
theorem dX4_loses_83 : decode cX4_loses 83 = .ok (.invokevirtual 71, 3) := by decide +kernel
theorem dX4_loses_86 : decode cX4_loses 86 = .ok (.isub, 1) := by decide +kernel
theorem dX4_loses_87 : decode cX4_loses 87 = .ok (.ireturn, 1) := by decide +kernel
theorem dX4_loses_88 : decode cX4_loses 88 = .ok (.iload_n 2, 1) := by decide +kernel
theorem dX4_loses_89 : decode cX4_loses 89 = .ok (.aload_n 0, 1) := by decide +kernel
theorem dX4_loses_90 : decode cX4_loses 90 = .ok (.iload_n 1, 1) := by decide +kernel
theorem dX4_loses_91 : decode cX4_loses 91 = .ok (.invokevirtual 71, 3) := by decide +kernel
theorem dX4_loses_94 : decode cX4_loses 94 = .ok (.isub, 1) := by decide +kernel
theorem dX4_loses_95 : decode cX4_loses 95 = .ok (.aload_n 0, 1) := by decide +kernel
theorem dX4_loses_96 : decode cX4_loses 96 = .ok (.getfield 46, 3) := by decide +kernel
theorem dX4_loses_99 : decode cX4_loses 99 = .ok (.iconst 2, 1) := by decide +kernel
theorem dX4_loses_100 : decode cX4_loses 100 = .ok (.irem, 1) := by decide +kernel
theorem dX4_loses_101 : decode cX4_loses 101 = .ok (.ifCond .ne 12, 3) := by decide +kernel
theorem dX4_loses_104 : decode cX4_loses 104 = .ok (.aload_n 0, 1) := by decide +kernel
theorem dX4_loses_105 : decode cX4_loses 105 = .ok (.getfield 9, 3) := by decide +kernel
theorem dX4_loses_108 : decode cX4_loses 108 = .ok (.iconst 2, 1) := by decide +kernel
theorem dX4_loses_109 : decode cX4_loses 109 = .ok (.iaload, 1) := by decide +kernel
theorem dX4_loses_110 : decode cX4_loses 110 = .ok (.goto 4, 3) := by decide +kernel
theorem dX4_loses_113 : decode cX4_loses 113 = .ok (.iconst 0, 1) := by decide +kernel
theorem dX4_loses_114 : decode cX4_loses 114 = .ok (.iadd, 1) := by decide +kernel
theorem dX4_loses_115 : decode cX4_loses 115 = .ok (.ireturn, 1) := by decide +kernel
theorem dX4_loses_116 : decode cX4_loses 116 = .ok (.aload_n 0, 1) := by decide +kernel
theorem dX4_loses_117 : decode cX4_loses 117 = .ok (.getfield 46, 3) := by decide +kernel
theorem dX4_loses_120 : decode cX4_loses 120 = .ok (.iconst 5, 1) := by decide +kernel
theorem dX4_loses_121 : decode cX4_loses 121 = .ok (.irem, 1) := by decide +kernel
theorem dX4_loses_122 : decode cX4_loses 122 = .ok (.ifCond .ne 7, 3) := by decide +kernel
theorem dX4_loses_125 : decode cX4_loses 125 = .ok (.iload_n 2, 1) := by decide +kernel
theorem dX4_loses_126 : decode cX4_loses 126 = .ok (.goto 4, 3) := by decide +kernel
theorem dX4_loses_129 : decode cX4_loses 129 = .ok (.iconst 0, 1) := by decide +kernel
theorem dX4_loses_130 : decode cX4_loses 130 = .ok (.ireturn, 1) := by decide +kernel
theorem dX4_loses_131 : decode cX4_loses 131 = .ok (.iload_n 2, 1) := by decide +kernel
theorem dX4_loses_132 : decode cX4_loses 132 = .ok (.ireturn, 1) := by decide +kernel
theorem dX4_rank_0 : decode cX4_rank 0 = .ok (.aload_n 0, 1) := by decide +kernel
theorem dX4_rank_1 : decode cX4_rank 1 = .ok (.getfield 27, 3) := by decide +kernel
theorem dX4_rank_4 : decode cX4_rank 4 = .ok (.iload_n 1, 1) := by decide +kernel
theorem dX4_rank_5 : decode cX4_rank 5 = .ok (.iaload, 1) := by decide +kernel
theorem dX4_rank_6 : decode cX4_rank 6 = .ok (.istore_n 2, 1) := by decide +kernel
theorem dX4_rank_7 : decode cX4_rank 7 = .ok (.aload_n 0, 1) := by decide +kernel
theorem dX4_rank_8 : decode cX4_rank 8 = .ok (.getfield 18, 3) := by decide +kernel
theorem dX4_rank_11 : decode cX4_rank 11 = .ok (.iload_n 1, 1) := by decide +kernel
theorem dX4_rank_12 : decode cX4_rank 12 = .ok (.iaload, 1) := by decide +kernel
theorem dX4_rank_13 : decode cX4_rank 13 = .ok (.tableswitch 65 1 5 #[35, 50, 39, 55, 62], 35) := by decide +kernel
theorem dX4_rank_48 : decode cX4_rank 48 = .ok (.iload_n 2, 1) := by decide +kernel
theorem dX4_rank_49 : decode cX4_rank 49 = .ok (.iconst 3, 1) := by decide +kernel
theorem dX4_rank_50 : decode cX4_rank 50 = .ok (.iadd, 1) := by decide +kernel
theorem dX4_rank_51 : decode cX4_rank 51 = .ok (.ireturn, 1) := by decide +kernel
theorem dX4_rank_52 : decode cX4_rank 52 = .ok (.iload_n 2, 1) := by decide +kernel
theorem dX4_rank_53 : decode cX4_rank 53 = .ok (.iconst 3, 1) := by decide +kernel
theorem dX4_rank_54 : decode cX4_rank 54 = .ok (.iadd, 1) := by decide +kernel
theorem dX4_rank_55 : decode cX4_rank 55 = .ok (.aload_n 0, 1) := by decide +kernel
theorem dX4_rank_56 : decode cX4_rank 56 = .ok (.getfield 21, 3) := by decide +kernel
theorem dX4_rank_59 : decode cX4_rank 59 = .ok (.iload_n 1, 1) := by decide +kernel
theorem dX4_rank_60 : decode cX4_rank 60 = .ok (.iaload, 1) := by decide +kernel
theorem dX4_rank_61 : decode cX4_rank 61 = .ok (.iadd, 1) := by decide +kernel
theorem dX4_rank_62 : decode cX4_rank 62 = .ok (.ireturn, 1) := by decide +kernel
theorem dX4_rank_63 : decode cX4_rank 63 = .ok (.bipush 10, 2) := by decide +kernel
theorem dX4_rank_65 : decode cX4_rank 65 = .ok (.iload_n 2, 1) := by decide +kernel
theorem dX4_rank_66 : decode cX4_rank 66 = .ok (.isub, 1) := by decide +kernel
theorem dX4_rank_67 : decode cX4_rank 67 = .ok (.ireturn, 1) := by decide +kernel
theorem dX4_rank_68 : decode cX4_rank 68 = .ok (.iconst 2, 1) := by decide +kernel
theorem dX4_rank_69 : decode cX4_rank 69 = .ok (.bipush 10, 2) := by decide +kernel
theorem dX4_rank_71 : decode cX4_rank 71 = .ok (.iload_n 2, 1) := by decide +kernel
theorem dX4_rank_72 : decode cX4_rank 72 = .ok (.isub, 1) := by decide +kernel
theorem dX4_rank_73 : decode cX4_rank 73 = .ok (.imul, 1) := by decide +kernel
theorem dX4_rank_74 : decode cX4_rank 74 = .ok (.ireturn, 1) := by decide +kernel
theorem dX4_rank_75 : decode cX4_rank 75 = .ok (.iload_n 2, 1) := by decide +kernel
theorem dX4_rank_76 : decode cX4_rank 76 = .ok (.ineg, 1) := by decide +kernel
theorem dX4_rank_77 : decode cX4_rank 77 = .ok (.ireturn, 1) := by decide +kernel
theorem dX4_rank_78 : decode cX4_rank 78 = .ok (.iload_n 2, 1) := by decide +kernel
theorem dX4_rank_79 : decode cX4_rank 79 = .ok (.ireturn, 1) := by decide +kernel
theorem dX4_passDay_0 : decode cX4_passDay 0 = .ok (.iconst 0, 1) := by decide +kernel
theorem dX4_passDay_1 : decode cX4_passDay 1 = .ok (.istore_n 1, 1) := by decide +kernel
theorem dX4_passDay_2 : decode cX4_passDay 2 = .ok (.iload_n 1, 1) := by decide +kernel
theorem dX4_passDay_3 : decode cX4_passDay 3 = .ok (.aload_n 0, 1) := by decide +kernel
theorem dX4_passDay_4 : decode cX4_passDay 4 = .ok (.getfield 40, 3) := by decide +kernel
theorem dX4_passDay_7 : decode cX4_passDay 7 = .ok (.if_icmp .ge 46, 3) := by decide +kernel
theorem dX4_passDay_10 : decode cX4_passDay 10 = .ok (.aload_n 0, 1) := by decide +kernel
theorem dX4_passDay_11 : decode cX4_passDay 11 = .ok (.iload_n 1, 1) := by decide +kernel
theorem dX4_passDay_12 : decode cX4_passDay 12 = .ok (.invokevirtual 58, 3) := by decide +kernel
theorem dX4_passDay_15 : decode cX4_passDay 15 = .ok (.ifCond .eq 32, 3) := by decide +kernel
theorem dX4_passDay_18 : decode cX4_passDay 18 = .ok (.aload_n 0, 1) := by decide +kernel
theorem dX4_passDay_19 : decode cX4_passDay 19 = .ok (.iload_n 1, 1) := by decide +kernel
theorem dX4_passDay_20 : decode cX4_passDay 20 = .ok (.invokevirtual 74, 3) := by decide +kernel
theorem dX4_passDay_23 : decode cX4_passDay 23 = .ok (.ifCond .ne 24, 3) := by decide +kernel
theorem dX4_passDay_26 : decode cX4_passDay 26 = .ok (.aload_n 0, 1) := by decide +kernel
theorem dX4_passDay_27 : decode cX4_passDay 27 = .ok (.getfield 24, 3) := by decide +kernel
theorem dX4_passDay_30 : decode cX4_passDay 30 = .ok (.iload_n 1, 1) := by decide +kernel
theorem dX4_passDay_31 : decode cX4_passDay 31 = .ok (.aload_n 0, 1) := by decide +kernel
theorem dX4_passDay_32 : decode cX4_passDay 32 = .ok (.getfield 24, 3) := by decide +kernel
theorem dX4_passDay_35 : decode cX4_passDay 35 = .ok (.iload_n 1, 1) := by decide +kernel
theorem dX4_passDay_36 : decode cX4_passDay 36 = .ok (.iaload, 1) := by decide +kernel
theorem dX4_passDay_37 : decode cX4_passDay 37 = .ok (.aload_n 0, 1) := by decide +kernel
theorem dX4_passDay_38 : decode cX4_passDay 38 = .ok (.iload_n 1, 1) := by decide +kernel
theorem dX4_passDay_39 : decode cX4_passDay 39 = .ok (.invokevirtual 77, 3) := by decide +kernel
theorem dX4_passDay_42 : decode cX4_passDay 42 = .ok (.isub, 1) := by decide +kernel
theorem dX4_passDay_43 : decode cX4_passDay 43 = .ok (.invokestatic 80, 3) := by decide +kernel
theorem dX4_passDay_46 : decode cX4_passDay 46 = .ok (.iastore, 1) := by decide +kernel
theorem dX4_passDay_47 : decode cX4_passDay 47 = .ok (.iinc 1 1, 3) := by decide +kernel
theorem dX4_passDay_50 : decode cX4_passDay 50 = .ok (.goto (-48), 3) := by decide +kernel
theorem dX4_passDay_53 : decode cX4_passDay 53 = .ok (.aload_n 0, 1) := by decide +kernel
theorem dX4_passDay_54 : decode cX4_passDay 54 = .ok (.invokevirtual 83, 3) := by decide +kernel
theorem dX4_passDay_57 : decode cX4_passDay 57 = .ok (.istore_n 1, 1) := by decide +kernel
theorem dX4_passDay_58 : decode cX4_passDay 58 = .ok (.iload_n 1, 1) := by decide +kernel
theorem dX4_passDay_59 : decode cX4_passDay 59 = .ok (.ifCond .lt 8, 3) := by decide +kernel
theorem dX4_passDay_62 : decode cX4_passDay 62 = .ok (.aload_n 0, 1) := by decide +kernel
theorem dX4_passDay_63 : decode cX4_passDay 63 = .ok (.iload_n 1, 1) := by decide +kernel
theorem dX4_passDay_64 : decode cX4_passDay 64 = .ok (.invokevirtual 87, 3) := by decide +kernel
theorem dX4_passDay_67 : decode cX4_passDay 67 = .ok (.aload_n 0, 1) := by decide +kernel
theorem dX4_passDay_68 : decode cX4_passDay 68 = .ok (.dup, 1) := by decide +kernel
theorem dX4_passDay_69 : decode cX4_passDay 69 = .ok (.getfield 46, 3) := by decide +kernel
theorem dX4_passDay_72 : decode cX4_passDay 72 = .ok (.iconst 1, 1) := by decide +kernel
theorem dX4_passDay_73 : decode cX4_passDay 73 = .ok (.iadd, 1) := by decide +kernel
theorem dX4_passDay_74 : decode cX4_passDay 74 = .ok (.putfield 46, 3) := by decide +kernel
theorem dX4_passDay_77 : decode cX4_passDay 77 = .ok (.iload_n 1, 1) := by decide +kernel
theorem dX4_passDay_78 : decode cX4_passDay 78 = .ok (.ireturn, 1) := by decide +kernel
theorem dX4_faller_0 : decode cX4_faller 0 = .ok (.iconst (-1), 1) := by decide +kernel
theorem dX4_faller_1 : decode cX4_faller 1 = .ok (.istore_n 1, 1) := by decide +kernel
theorem dX4_faller_2 : decode cX4_faller 2 = .ok (.iconst 0, 1) := by decide +kernel
theorem dX4_faller_3 : decode cX4_faller 3 = .ok (.istore_n 2, 1) := by decide +kernel
theorem dX4_faller_4 : decode cX4_faller 4 = .ok (.iload_n 2, 1) := by decide +kernel
theorem dX4_faller_5 : decode cX4_faller 5 = .ok (.aload_n 0, 1) := by decide +kernel
theorem dX4_faller_6 : decode cX4_faller 6 = .ok (.getfield 40, 3) := by decide +kernel
theorem dX4_faller_9 : decode cX4_faller 9 = .ok (.if_icmp .ge 53, 3) := by decide +kernel
theorem dX4_faller_12 : decode cX4_faller 12 = .ok (.aload_n 0, 1) := by decide +kernel
theorem dX4_faller_13 : decode cX4_faller 13 = .ok (.iload_n 2, 1) := by decide +kernel
theorem dX4_faller_14 : decode cX4_faller 14 = .ok (.invokevirtual 58, 3) := by decide +kernel
theorem dX4_faller_17 : decode cX4_faller 17 = .ok (.ifCond .eq 39, 3) := by decide +kernel
theorem dX4_faller_20 : decode cX4_faller 20 = .ok (.aload_n 0, 1) := by decide +kernel
theorem dX4_faller_21 : decode cX4_faller 21 = .ok (.getfield 24, 3) := by decide +kernel
theorem dX4_faller_24 : decode cX4_faller 24 = .ok (.iload_n 2, 1) := by decide +kernel
theorem dX4_faller_25 : decode cX4_faller 25 = .ok (.iaload, 1) := by decide +kernel
theorem dX4_faller_26 : decode cX4_faller 26 = .ok (.ifCond .ne 30, 3) := by decide +kernel
theorem dX4_faller_29 : decode cX4_faller 29 = .ok (.aload_n 0, 1) := by decide +kernel
theorem dX4_faller_30 : decode cX4_faller 30 = .ok (.iload_n 2, 1) := by decide +kernel
theorem dX4_faller_31 : decode cX4_faller 31 = .ok (.invokevirtual 74, 3) := by decide +kernel
theorem dX4_faller_34 : decode cX4_faller 34 = .ok (.ifCond .ne 22, 3) := by decide +kernel
theorem dX4_faller_37 : decode cX4_faller 37 = .ok (.iload_n 1, 1) := by decide +kernel
theorem dX4_faller_38 : decode cX4_faller 38 = .ok (.ifCond .lt 16, 3) := by decide +kernel
theorem dX4_faller_41 : decode cX4_faller 41 = .ok (.aload_n 0, 1) := by decide +kernel
theorem dX4_faller_42 : decode cX4_faller 42 = .ok (.iload_n 2, 1) := by decide +kernel
theorem dX4_faller_43 : decode cX4_faller 43 = .ok (.invokevirtual 91, 3) := by decide +kernel
theorem dX4_faller_46 : decode cX4_faller 46 = .ok (.aload_n 0, 1) := by decide +kernel
theorem dX4_faller_47 : decode cX4_faller 47 = .ok (.iload_n 1, 1) := by decide +kernel
theorem dX4_faller_48 : decode cX4_faller 48 = .ok (.invokevirtual 91, 3) := by decide +kernel
theorem dX4_faller_51 : decode cX4_faller 51 = .ok (.if_icmp .le 5, 3) := by decide +kernel
theorem dX4_faller_54 : decode cX4_faller 54 = .ok (.iload_n 2, 1) := by decide +kernel
theorem dX4_faller_55 : decode cX4_faller 55 = .ok (.istore_n 1, 1) := by decide +kernel
theorem dX4_faller_56 : decode cX4_faller 56 = .ok (.iinc 2 1, 3) := by decide +kernel
theorem dX4_faller_59 : decode cX4_faller 59 = .ok (.goto (-55), 3) := by decide +kernel
theorem dX4_faller_62 : decode cX4_faller 62 = .ok (.iload_n 1, 1) := by decide +kernel
theorem dX4_faller_63 : decode cX4_faller 63 = .ok (.ireturn, 1) := by decide +kernel
theorem dX4_isTied_0 : decode cX4_isTied 0 = .ok (.aload_n 0, 1) := by decide +kernel
theorem dX4_isTied_1 : decode cX4_isTied 1 = .ok (.getfield 49, 3) := by decide +kernel
theorem dX4_isTied_4 : decode cX4_isTied 4 = .ok (.iload_n 1, 1) := by decide +kernel
theorem dX4_isTied_5 : decode cX4_isTied 5 = .ok (.ishr, 1) := by decide +kernel
theorem dX4_isTied_6 : decode cX4_isTied 6 = .ok (.iconst 1, 1) := by decide +kernel
theorem dX4_isTied_7 : decode cX4_isTied 7 = .ok (.iand, 1) := by decide +kernel
theorem dX4_isTied_8 : decode cX4_isTied 8 = .ok (.ifCond .eq 7, 3) := by decide +kernel
theorem dX4_isTied_11 : decode cX4_isTied 11 = .ok (.iconst 1, 1) := by decide +kernel
theorem dX4_isTied_12 : decode cX4_isTied 12 = .ok (.goto 4, 3) := by decide +kernel
theorem dX4_isTied_15 : decode cX4_isTied 15 = .ok (.iconst 0, 1) := by decide +kernel
theorem dX4_isTied_16 : decode cX4_isTied 16 = .ok (.ireturn, 1) := by decide +kernel
theorem dX4_fell_0 : decode cX4_fell 0 = .ok (.aload_n 0, 1) := by decide +kernel
theorem dX4_fell_1 : decode cX4_fell 1 = .ok (.dup, 1) := by decide +kernel
theorem dX4_fell_2 : decode cX4_fell 2 = .ok (.getfield 43, 3) := by decide +kernel
theorem dX4_fell_5 : decode cX4_fell 5 = .ok (.iconst 1, 1) := by decide +kernel
theorem dX4_fell_6 : decode cX4_fell 6 = .ok (.iadd, 1) := by decide +kernel
theorem dX4_fell_7 : decode cX4_fell 7 = .ok (.putfield 43, 3) := by decide +kernel
theorem dX4_fell_10 : decode cX4_fell 10 = .ok (.aload_n 0, 1) := by decide +kernel
theorem dX4_fell_11 : decode cX4_fell 11 = .ok (.getfield 30, 3) := by decide +kernel
theorem dX4_fell_14 : decode cX4_fell 14 = .ok (.iload_n 1, 1) := by decide +kernel
theorem dX4_fell_15 : decode cX4_fell 15 = .ok (.aload_n 0, 1) := by decide +kernel
theorem dX4_fell_16 : decode cX4_fell 16 = .ok (.getfield 43, 3) := by decide +kernel
theorem dX4_fell_19 : decode cX4_fell 19 = .ok (.iastore, 1) := by decide +kernel
theorem dX4_fell_20 : decode cX4_fell 20 = .ok (.return_, 1) := by decide +kernel
theorem dX4_passDayByDraws_0 : decode cX4_passDayByDraws 0 = .ok (.aload_n 0, 1) := by decide +kernel
theorem dX4_passDayByDraws_1 : decode cX4_passDayByDraws 1 = .ok (.getfield 40, 3) := by decide +kernel
theorem dX4_passDayByDraws_4 : decode cX4_passDayByDraws 4 = .ok (.ifCond .le 39, 3) := by decide +kernel
theorem dX4_passDayByDraws_7 : decode cX4_passDayByDraws 7 = .ok (.aload_n 0, 1) := by decide +kernel
theorem dX4_passDayByDraws_8 : decode cX4_passDayByDraws 8 = .ok (.invokevirtual 94, 3) := by decide +kernel
theorem dX4_passDayByDraws_11 : decode cX4_passDayByDraws 11 = .ok (.aload_n 0, 1) := by decide +kernel
theorem dX4_passDayByDraws_12 : decode cX4_passDayByDraws 12 = .ok (.getfield 40, 3) := by decide +kernel
theorem dX4_passDayByDraws_15 : decode cX4_passDayByDraws 15 = .ok (.irem, 1) := by decide +kernel
theorem dX4_passDayByDraws_16 : decode cX4_passDayByDraws 16 = .ok (.istore_n 1, 1) := by decide +kernel
theorem dX4_passDayByDraws_17 : decode cX4_passDayByDraws 17 = .ok (.aload_n 0, 1) := by decide +kernel
theorem dX4_passDayByDraws_18 : decode cX4_passDayByDraws 18 = .ok (.invokevirtual 94, 3) := by decide +kernel
theorem dX4_passDayByDraws_21 : decode cX4_passDayByDraws 21 = .ok (.bipush 100, 2) := by decide +kernel
theorem dX4_passDayByDraws_23 : decode cX4_passDayByDraws 23 = .ok (.irem, 1) := by decide +kernel
theorem dX4_passDayByDraws_24 : decode cX4_passDayByDraws 24 = .ok (.aload_n 0, 1) := by decide +kernel
theorem dX4_passDayByDraws_25 : decode cX4_passDayByDraws 25 = .ok (.getfield 9, 3) := by decide +kernel
theorem dX4_passDayByDraws_28 : decode cX4_passDayByDraws 28 = .ok (.iconst 3, 1) := by decide +kernel
theorem dX4_passDayByDraws_29 : decode cX4_passDayByDraws 29 = .ok (.iaload, 1) := by decide +kernel
theorem dX4_passDayByDraws_30 : decode cX4_passDayByDraws 30 = .ok (.if_icmp .ge 13, 3) := by decide +kernel
theorem dX4_passDayByDraws_33 : decode cX4_passDayByDraws 33 = .ok (.aload_n 0, 1) := by decide +kernel
theorem dX4_passDayByDraws_34 : decode cX4_passDayByDraws 34 = .ok (.getfield 24, 3) := by decide +kernel
theorem dX4_passDayByDraws_37 : decode cX4_passDayByDraws 37 = .ok (.iload_n 1, 1) := by decide +kernel
theorem dX4_passDayByDraws_38 : decode cX4_passDayByDraws 38 = .ok (.dup2, 1) := by decide +kernel
theorem dX4_passDayByDraws_39 : decode cX4_passDayByDraws 39 = .ok (.iaload, 1) := by decide +kernel
theorem dX4_passDayByDraws_40 : decode cX4_passDayByDraws 40 = .ok (.iconst 3, 1) := by decide +kernel
theorem dX4_passDayByDraws_41 : decode cX4_passDayByDraws 41 = .ok (.idiv, 1) := by decide +kernel
theorem dX4_passDayByDraws_42 : decode cX4_passDayByDraws 42 = .ok (.iastore, 1) := by decide +kernel
theorem dX4_passDayByDraws_43 : decode cX4_passDayByDraws 43 = .ok (.aload_n 0, 1) := by decide +kernel
theorem dX4_passDayByDraws_44 : decode cX4_passDayByDraws 44 = .ok (.invokevirtual 97, 3) := by decide +kernel
theorem dX4_passDayByDraws_47 : decode cX4_passDayByDraws 47 = .ok (.ireturn, 1) := by decide +kernel
theorem dX4_drawn_0 : decode cX4_drawn 0 = .ok (.aload_n 0, 1) := by decide +kernel
theorem dX4_drawn_1 : decode cX4_drawn 1 = .ok (.aload_n 0, 1) := by decide +kernel
theorem dX4_drawn_2 : decode cX4_drawn 2 = .ok (.getfield 33, 3) := by decide +kernel
theorem dX4_drawn_5 : decode cX4_drawn 5 = .ok (.ldc 100, 2) := by decide +kernel
theorem dX4_drawn_7 : decode cX4_drawn 7 = .ok (.imul, 1) := by decide +kernel
theorem dX4_drawn_8 : decode cX4_drawn 8 = .ok (.sipush 12345, 3) := by decide +kernel
theorem dX4_drawn_11 : decode cX4_drawn 11 = .ok (.iadd, 1) := by decide +kernel
theorem dX4_drawn_12 : decode cX4_drawn 12 = .ok (.putfield 33, 3) := by decide +kernel
theorem dX4_drawn_15 : decode cX4_drawn 15 = .ok (.aload_n 0, 1) := by decide +kernel
theorem dX4_drawn_16 : decode cX4_drawn 16 = .ok (.getfield 33, 3) := by decide +kernel
theorem dX4_drawn_19 : decode cX4_drawn 19 = .ok (.bipush 16, 2) := by decide +kernel
theorem dX4_drawn_21 : decode cX4_drawn 21 = .ok (.iushr, 1) := by decide +kernel
theorem dX4_drawn_22 : decode cX4_drawn 22 = .ok (.ireturn, 1) := by decide +kernel
theorem dX4_signWritten_0 : decode cX4_signWritten 0 = .ok (.iconst 0, 1) := by decide +kernel
theorem dX4_signWritten_1 : decode cX4_signWritten 1 = .ok (.istore_n 2, 1) := by decide +kernel
theorem dX4_signWritten_2 : decode cX4_signWritten 2 = .ok (.iload_n 2, 1) := by decide +kernel
theorem dX4_signWritten_3 : decode cX4_signWritten 3 = .ok (.aload_n 0, 1) := by decide +kernel
theorem dX4_signWritten_4 : decode cX4_signWritten 4 = .ok (.getfield 40, 3) := by decide +kernel
theorem dX4_signWritten_7 : decode cX4_signWritten 7 = .ok (.if_icmp .ge 28, 3) := by decide +kernel
theorem dX4_signWritten_10 : decode cX4_signWritten 10 = .ok (.aload_n 0, 1) := by decide +kernel
theorem dX4_signWritten_11 : decode cX4_signWritten 11 = .ok (.getfield 30, 3) := by decide +kernel
theorem dX4_signWritten_14 : decode cX4_signWritten 14 = .ok (.iload_n 2, 1) := by decide +kernel
theorem dX4_signWritten_15 : decode cX4_signWritten 15 = .ok (.iaload, 1) := by decide +kernel
theorem dX4_signWritten_16 : decode cX4_signWritten 16 = .ok (.iload_n 1, 1) := by decide +kernel
theorem dX4_signWritten_17 : decode cX4_signWritten 17 = .ok (.iconst 1, 1) := by decide +kernel
theorem dX4_signWritten_18 : decode cX4_signWritten 18 = .ok (.iadd, 1) := by decide +kernel
theorem dX4_signWritten_19 : decode cX4_signWritten 19 = .ok (.if_icmp .ne 10, 3) := by decide +kernel
theorem dX4_signWritten_22 : decode cX4_signWritten 22 = .ok (.aload_n 0, 1) := by decide +kernel
theorem dX4_signWritten_23 : decode cX4_signWritten 23 = .ok (.getfield 27, 3) := by decide +kernel
theorem dX4_signWritten_26 : decode cX4_signWritten 26 = .ok (.iload_n 2, 1) := by decide +kernel
theorem dX4_signWritten_27 : decode cX4_signWritten 27 = .ok (.iaload, 1) := by decide +kernel
theorem dX4_signWritten_28 : decode cX4_signWritten 28 = .ok (.ireturn, 1) := by decide +kernel
theorem dX4_signWritten_29 : decode cX4_signWritten 29 = .ok (.iinc 2 1, 3) := by decide +kernel
theorem dX4_signWritten_32 : decode cX4_signWritten 32 = .ok (.goto (-30), 3) := by decide +kernel
theorem dX4_signWritten_35 : decode cX4_signWritten 35 = .ok (.bipush (-3), 2) := by decide +kernel
theorem dX4_signWritten_37 : decode cX4_signWritten 37 = .ok (.ireturn, 1) := by decide +kernel
theorem dX4_rhymes_0 : decode cX4_rhymes 0 = .ok (.iconst 0, 1) := by decide +kernel
theorem dX4_rhymes_1 : decode cX4_rhymes 1 = .ok (.istore_n 1, 1) := by decide +kernel
theorem dX4_rhymes_2 : decode cX4_rhymes 2 = .ok (.iconst 1, 1) := by decide +kernel
theorem dX4_rhymes_3 : decode cX4_rhymes 3 = .ok (.istore_n 2, 1) := by decide +kernel
theorem dX4_rhymes_4 : decode cX4_rhymes 4 = .ok (.iload_n 2, 1) := by decide +kernel
theorem dX4_rhymes_5 : decode cX4_rhymes 5 = .ok (.aload_n 0, 1) := by decide +kernel
theorem dX4_rhymes_6 : decode cX4_rhymes 6 = .ok (.getfield 43, 3) := by decide +kernel
theorem dX4_rhymes_9 : decode cX4_rhymes 9 = .ok (.if_icmp .ge 27, 3) := by decide +kernel
theorem dX4_rhymes_12 : decode cX4_rhymes 12 = .ok (.aload_n 0, 1) := by decide +kernel
theorem dX4_rhymes_13 : decode cX4_rhymes 13 = .ok (.iload_n 2, 1) := by decide +kernel
theorem dX4_rhymes_14 : decode cX4_rhymes 14 = .ok (.invokevirtual 101, 3) := by decide +kernel
theorem dX4_rhymes_17 : decode cX4_rhymes 17 = .ok (.aload_n 0, 1) := by decide +kernel
theorem dX4_rhymes_18 : decode cX4_rhymes 18 = .ok (.iload_n 2, 1) := by decide +kernel
theorem dX4_rhymes_19 : decode cX4_rhymes 19 = .ok (.iconst 1, 1) := by decide +kernel
theorem dX4_rhymes_20 : decode cX4_rhymes 20 = .ok (.isub, 1) := by decide +kernel
theorem dX4_rhymes_21 : decode cX4_rhymes 21 = .ok (.invokevirtual 101, 3) := by decide +kernel
theorem dX4_rhymes_24 : decode cX4_rhymes 24 = .ok (.if_icmp .ne 6, 3) := by decide +kernel
theorem dX4_rhymes_27 : decode cX4_rhymes 27 = .ok (.iinc 1 1, 3) := by decide +kernel
theorem dX4_rhymes_30 : decode cX4_rhymes 30 = .ok (.iinc 2 1, 3) := by decide +kernel
theorem dX4_rhymes_33 : decode cX4_rhymes 33 = .ok (.goto (-29), 3) := by decide +kernel
theorem dX4_rhymes_36 : decode cX4_rhymes 36 = .ok (.iload_n 1, 1) := by decide +kernel
theorem dX4_rhymes_37 : decode cX4_rhymes 37 = .ok (.ireturn, 1) := by decide +kernel
theorem dX4_spelled_0 : decode cX4_spelled 0 = .ok (.iconst 0, 1) := by decide +kernel
theorem dX4_spelled_1 : decode cX4_spelled 1 = .ok (.istore_n 1, 1) := by decide +kernel
theorem dX4_spelled_2 : decode cX4_spelled 2 = .ok (.iconst 0, 1) := by decide +kernel
theorem dX4_spelled_3 : decode cX4_spelled 3 = .ok (.istore_n 2, 1) := by decide +kernel
theorem dX4_spelled_4 : decode cX4_spelled 4 = .ok (.iload_n 2, 1) := by decide +kernel
theorem dX4_spelled_5 : decode cX4_spelled 5 = .ok (.aload_n 0, 1) := by decide +kernel
theorem dX4_spelled_6 : decode cX4_spelled 6 = .ok (.getfield 43, 3) := by decide +kernel
theorem dX4_spelled_9 : decode cX4_spelled 9 = .ok (.if_icmp .ge 20, 3) := by decide +kernel
theorem dX4_spelled_12 : decode cX4_spelled 12 = .ok (.iload_n 1, 1) := by decide +kernel
theorem dX4_spelled_13 : decode cX4_spelled 13 = .ok (.bipush 10, 2) := by decide +kernel
theorem dX4_spelled_15 : decode cX4_spelled 15 = .ok (.imul, 1) := by decide +kernel
theorem dX4_spelled_16 : decode cX4_spelled 16 = .ok (.aload_n 0, 1) := by decide +kernel
theorem dX4_spelled_17 : decode cX4_spelled 17 = .ok (.iload_n 2, 1) := by decide +kernel
theorem dX4_spelled_18 : decode cX4_spelled 18 = .ok (.invokevirtual 101, 3) := by decide +kernel
theorem dX4_spelled_21 : decode cX4_spelled 21 = .ok (.iadd, 1) := by decide +kernel
theorem dX4_spelled_22 : decode cX4_spelled 22 = .ok (.istore_n 1, 1) := by decide +kernel
theorem dX4_spelled_23 : decode cX4_spelled 23 = .ok (.iinc 2 1, 3) := by decide +kernel
theorem dX4_spelled_26 : decode cX4_spelled 26 = .ok (.goto (-22), 3) := by decide +kernel
theorem dX4_spelled_29 : decode cX4_spelled 29 = .ok (.iload_n 1, 1) := by decide +kernel
theorem dX4_spelled_30 : decode cX4_spelled 30 = .ok (.ireturn, 1) := by decide +kernel
theorem dX4_holdTogether_0 : decode cX4_holdTogether 0 = .ok (.iconst 0, 1) := by decide +kernel
theorem dX4_holdTogether_1 : decode cX4_holdTogether 1 = .ok (.istore_n 1, 1) := by decide +kernel
theorem dX4_holdTogether_2 : decode cX4_holdTogether 2 = .ok (.iconst 0, 1) := by decide +kernel
theorem dX4_holdTogether_3 : decode cX4_holdTogether 3 = .ok (.istore_n 2, 1) := by decide +kernel
theorem dX4_holdTogether_4 : decode cX4_holdTogether 4 = .ok (.iload_n 2, 1) := by decide +kernel
theorem dX4_holdTogether_5 : decode cX4_holdTogether 5 = .ok (.aload_n 0, 1) := by decide +kernel
theorem dX4_holdTogether_6 : decode cX4_holdTogether 6 = .ok (.getfield 40, 3) := by decide +kernel
theorem dX4_holdTogether_9 : decode cX4_holdTogether 9 = .ok (.if_icmp .ge 26, 3) := by decide +kernel
theorem dX4_holdTogether_12 : decode cX4_holdTogether 12 = .ok (.aload_n 0, 1) := by decide +kernel
theorem dX4_holdTogether_13 : decode cX4_holdTogether 13 = .ok (.iload_n 2, 1) := by decide +kernel
theorem dX4_holdTogether_14 : decode cX4_holdTogether 14 = .ok (.invokevirtual 58, 3) := by decide +kernel
theorem dX4_holdTogether_17 : decode cX4_holdTogether 17 = .ok (.ifCond .eq 12, 3) := by decide +kernel
theorem dX4_holdTogether_20 : decode cX4_holdTogether 20 = .ok (.iload_n 1, 1) := by decide +kernel
theorem dX4_holdTogether_21 : decode cX4_holdTogether 21 = .ok (.aload_n 0, 1) := by decide +kernel
theorem dX4_holdTogether_22 : decode cX4_holdTogether 22 = .ok (.getfield 24, 3) := by decide +kernel
theorem dX4_holdTogether_25 : decode cX4_holdTogether 25 = .ok (.iload_n 2, 1) := by decide +kernel
theorem dX4_holdTogether_26 : decode cX4_holdTogether 26 = .ok (.iaload, 1) := by decide +kernel
theorem dX4_holdTogether_27 : decode cX4_holdTogether 27 = .ok (.iadd, 1) := by decide +kernel
theorem dX4_holdTogether_28 : decode cX4_holdTogether 28 = .ok (.istore_n 1, 1) := by decide +kernel
theorem dX4_holdTogether_29 : decode cX4_holdTogether 29 = .ok (.iinc 2 1, 3) := by decide +kernel
theorem dX4_holdTogether_32 : decode cX4_holdTogether 32 = .ok (.goto (-28), 3) := by decide +kernel
theorem dX4_holdTogether_35 : decode cX4_holdTogether 35 = .ok (.iload_n 1, 1) := by decide +kernel
theorem dX4_holdTogether_36 : decode cX4_holdTogether 36 = .ok (.ireturn, 1) := by decide +kernel
theorem dX4_swayTogether_0 : decode cX4_swayTogether 0 = .ok (.iconst 0, 1) := by decide +kernel
theorem dX4_swayTogether_1 : decode cX4_swayTogether 1 = .ok (.istore_n 1, 1) := by decide +kernel
theorem dX4_swayTogether_2 : decode cX4_swayTogether 2 = .ok (.iconst 0, 1) := by decide +kernel
theorem dX4_swayTogether_3 : decode cX4_swayTogether 3 = .ok (.istore_n 2, 1) := by decide +kernel
theorem dX4_swayTogether_4 : decode cX4_swayTogether 4 = .ok (.iload_n 2, 1) := by decide +kernel
theorem dX4_swayTogether_5 : decode cX4_swayTogether 5 = .ok (.bipush 6, 2) := by decide +kernel
theorem dX4_swayTogether_7 : decode cX4_swayTogether 7 = .ok (.if_icmp .ge 18, 3) := by decide +kernel
theorem dX4_swayTogether_10 : decode cX4_swayTogether 10 = .ok (.iload_n 1, 1) := by decide +kernel
theorem dX4_swayTogether_11 : decode cX4_swayTogether 11 = .ok (.aload_n 0, 1) := by decide +kernel
theorem dX4_swayTogether_12 : decode cX4_swayTogether 12 = .ok (.getfield 15, 3) := by decide +kernel
theorem dX4_swayTogether_15 : decode cX4_swayTogether 15 = .ok (.iload_n 2, 1) := by decide +kernel
theorem dX4_swayTogether_16 : decode cX4_swayTogether 16 = .ok (.iaload, 1) := by decide +kernel
theorem dX4_swayTogether_17 : decode cX4_swayTogether 17 = .ok (.iadd, 1) := by decide +kernel
theorem dX4_swayTogether_18 : decode cX4_swayTogether 18 = .ok (.istore_n 1, 1) := by decide +kernel
theorem dX4_swayTogether_19 : decode cX4_swayTogether 19 = .ok (.iinc 2 1, 3) := by decide +kernel
theorem dX4_swayTogether_22 : decode cX4_swayTogether 22 = .ok (.goto (-18), 3) := by decide +kernel
theorem dX4_swayTogether_25 : decode cX4_swayTogether 25 = .ok (.iload_n 1, 1) := by decide +kernel
theorem dX4_swayTogether_26 : decode cX4_swayTogether 26 = .ok (.ireturn, 1) := by decide +kernel
end
section
/-! ===== the methods by number ===== -/
abbrev tt_0 : ma_M := (0, cX0_init, 1, none, yX0_init, 1, 122, 4)
theorem mt_0 : ma_mts 0 = some tt_0 := rfl
abbrev tt_1 : ma_M := (0, cX0_perform, 4, (some .int), yX0_perform, 4, 685, 4)
theorem mt_1 : ma_mts 1 = some tt_1 := rfl
abbrev tt_2 : ma_M := (0, cX0_turns, 3, (some .int), yX0_turns, 1, 689, 4)
theorem mt_2 : ma_mts 2 = some tt_2 := rfl
abbrev tt_3 : ma_M := (0, cX0_began, 3, none, yX0_began, 0, 693, 4)
theorem mt_3 : ma_mts 3 = some tt_3 := rfl
abbrev tt_4 : ma_M := (0, cX0_names, 3, (some .int), yX0_names, 2, 698, 4)
theorem mt_4 : ma_mts 4 = some tt_4 := rfl
abbrev tt_5 : ma_M := (0, cX0_parts, 4, (some .int), yX0_parts, 2, 702, 4)
theorem mt_5 : ma_mts 5 = some tt_5 := rfl
abbrev tt_6 : ma_M := (0, cX0_lands, 3, (some .int), yX0_lands, 3, 706, 4)
theorem mt_6 : ma_mts 6 = some tt_6 := rfl
abbrev tt_7 : ma_M := (1, cX1_init, 1, none, yX1_init, 1, 151, 5)
theorem mt_7 : ma_mts 7 = some tt_7 := rfl
abbrev tt_8 : ma_M := (1, cX1_isMissing, 1, (some .boolean), yX1_isMissing, 0, 584, 5)
theorem mt_8 : ma_mts 8 = some tt_8 := rfl
abbrev tt_9 : ma_M := (1, cX1_begin, 4, none, yX1_begin, 0, 641, 5)
theorem mt_9 : ma_mts 9 = some tt_9 := rfl
abbrev tt_10 : ma_M := (1, cX1_narrowed, 2, (some .long), yX1_narrowed, 0, 649, 5)
theorem mt_10 : ma_mts 10 = some tt_10 := rfl
abbrev tt_11 : ma_M := (2, cX2_init, 1, none, yX2_init, 1, 172, 6)
theorem mt_11 : ma_mts 11 = some tt_11 := rfl
abbrev tt_12 : ma_M := (2, cX2_takeLeaf, 2, none, yX2_takeLeaf, 0, 661, 6)
theorem mt_12 : ma_mts 12 = some tt_12 := rfl
abbrev tt_13 : ma_M := (2, cX2_takeRow, 2, none, yX2_takeRow, 1, 665, 6)
theorem mt_13 : ma_mts 13 = some tt_13 := rfl
abbrev tt_14 : ma_M := (3, cX3_init, 1, none, yX3_init, 1, 90, 3)
theorem mt_14 : ma_mts 14 = some tt_14 := rfl
abbrev tt_15 : ma_M := (3, cX3_readInto, 5, (some .int), yX3_readInto, 8, 233, 3)
theorem mt_15 : ma_mts 15 = some tt_15 := rfl
abbrev tt_16 : ma_M := (3, cX3_step, 1, none, yX3_step, 1, 237, 3)
theorem mt_16 : ma_mts 16 = some tt_16 := rfl
abbrev tt_17 : ma_M := (3, cX3_sortAt, 3, (some .int), yX3_sortAt, 0, 241, 3)
theorem mt_17 : ma_mts 17 = some tt_17 := rfl
abbrev tt_18 : ma_M := (3, cX3_lawNamed, 1, (some .int), yX3_lawNamed, 6, 245, 3)
theorem mt_18 : ma_mts 18 = some tt_18 := rfl
abbrev tt_19 : ma_M := (3, cX3_isName, 3, (some .boolean), yX3_isName, 5, 250, 3)
theorem mt_19 : ma_mts 19 = some tt_19 := rfl
abbrev tt_20 : ma_M := (3, cX3_kindNamed, 2, (some .int), yX3_kindNamed, 6, 305, 3)
theorem mt_20 : ma_mts 20 = some tt_20 := rfl
abbrev tt_21 : ma_M := (3, cX3_kindName, 1, (some (.object "java/lang/String")), yX3_kindName, 0, 308, 3)
theorem mt_21 : ma_mts 21 = some tt_21 := rfl
abbrev tt_22 : ma_M := (3, cX3_readLaw, 4, none, yX3_readLaw, 3, 318, 3)
theorem mt_22 : ma_mts 22 = some tt_22 := rfl
abbrev tt_23 : ma_M := (3, cX3_number, 3, (some .int), yX3_number, 2, 325, 3)
theorem mt_23 : ma_mts 23 = some tt_23 := rfl
abbrev tt_24 : ma_M := (3, cX3_value, 3, (some .int), yX3_value, 0, 329, 3)
theorem mt_24 : ma_mts 24 = some tt_24 := rfl
abbrev tt_25 : ma_M := (3, cX3_passSemicolon, 2, (some .boolean), yX3_passSemicolon, 2, 333, 3)
theorem mt_25 : ma_mts 25 = some tt_25 := rfl
abbrev tt_26 : ma_M := (3, cX3_readSway, 4, none, yX3_readSway, 7, 338, 3)
theorem mt_26 : ma_mts 26 = some tt_26 := rfl
abbrev tt_27 : ma_M := (3, cX3_passName, 3, (some .boolean), yX3_passName, 6, 343, 3)
theorem mt_27 : ma_mts 27 = some tt_27 := rfl
abbrev tt_28 : ma_M := (3, cX3_readLeaf, 6, none, yX3_readLeaf, 7, 347, 3)
theorem mt_28 : ma_mts 28 = some tt_28 := rfl
abbrev tt_29 : ma_M := (3, cX3_numberNamed, 4, (some .int), yX3_numberNamed, 6, 353, 3)
theorem mt_29 : ma_mts 29 = some tt_29 := rfl
abbrev tt_30 : ma_M := (4, cX4_init, 1, none, yX4_init, 1, 27, 2)
theorem mt_30 : ma_mts 30 = some tt_30 := rfl
abbrev tt_31 : ma_M := (4, cX4_clear, 2, none, yX4_clear, 0, 32, 2)
theorem mt_31 : ma_mts 31 = some tt_31 := rfl
abbrev tt_32 : ma_M := (4, cX4_grow, 5, none, yX4_grow, 0, 358, 2)
theorem mt_32 : ma_mts 32 = some tt_32 := rfl
abbrev tt_33 : ma_M := (4, cX4_become, 2, none, yX4_become, 1, 362, 2)
theorem mt_33 : ma_mts 33 = some tt_33 := rfl
abbrev tt_34 : ma_M := (4, cX4_has, 2, (some .boolean), yX4_has, 0, 387, 2)
theorem mt_34 : ma_mts 34 = some tt_34 := rfl
abbrev tt_35 : ma_M := (4, cX4_hangs, 2, (some .boolean), yX4_hangs, 0, 391, 2)
theorem mt_35 : ma_mts 35 = some tt_35 := rfl
abbrev tt_36 : ma_M := (4, cX4_mates, 2, (some .int), yX4_mates, 2, 395, 2)
theorem mt_36 : ma_mts 36 = some tt_36 := rfl
abbrev tt_37 : ma_M := (4, cX4_hangingOn, 4, (some .int), yX4_hangingOn, 1, 399, 2)
theorem mt_37 : ma_mts 37 = some tt_37 := rfl
abbrev tt_38 : ma_M := (4, cX4_loses, 3, (some .int), yX4_loses, 3, 414, 2)
theorem mt_38 : ma_mts 38 = some tt_38 := rfl
abbrev tt_39 : ma_M := (4, cX4_rank, 3, (some .int), yX4_rank, 0, 419, 2)
theorem mt_39 : ma_mts 39 = some tt_39 := rfl
abbrev tt_40 : ma_M := (4, cX4_fell, 2, none, yX4_fell, 0, 439, 2)
theorem mt_40 : ma_mts 40 = some tt_40 := rfl
abbrev tt_41 : ma_M := (4, cX4_hanging, 1, (some .int), yX4_hanging, 0, 443, 2)
theorem mt_41 : ma_mts 41 = some tt_41 := rfl
abbrev tt_42 : ma_M := (4, cX4_passDay, 2, (some .int), yX4_passDay, 4, 460, 2)
theorem mt_42 : ma_mts 42 = some tt_42 := rfl
abbrev tt_43 : ma_M := (4, cX4_isTied, 2, (some .boolean), yX4_isTied, 0, 464, 2)
theorem mt_43 : ma_mts 43 = some tt_43 := rfl
abbrev tt_44 : ma_M := (4, cX4_faller, 3, (some .int), yX4_faller, 1, 478, 2)
theorem mt_44 : ma_mts 44 = some tt_44 := rfl
abbrev tt_45 : ma_M := (4, cX4_passDayByDraws, 2, (some .int), yX4_passDayByDraws, 5, 492, 2)
theorem mt_45 : ma_mts 45 = some tt_45 := rfl
abbrev tt_46 : ma_M := (4, cX4_drawn, 1, (some .int), yX4_drawn, 0, 496, 2)
theorem mt_46 : ma_mts 46 = some tt_46 := rfl
abbrev tt_47 : ma_M := (4, cX4_signWritten, 3, (some .int), yX4_signWritten, 0, 510, 2)
theorem mt_47 : ma_mts 47 = some tt_47 := rfl
abbrev tt_48 : ma_M := (4, cX4_hangingSet, 3, (some .int), yX4_hangingSet, 1, 518, 2)
theorem mt_48 : ma_mts 48 = some tt_48 := rfl
abbrev tt_49 : ma_M := (4, cX4_holdTogether, 3, (some .int), yX4_holdTogether, 1, 522, 2)
theorem mt_49 : ma_mts 49 = some tt_49 := rfl
abbrev tt_50 : ma_M := (4, cX4_rhymes, 3, (some .int), yX4_rhymes, 1, 526, 2)
theorem mt_50 : ma_mts 50 = some tt_50 := rfl
abbrev tt_51 : ma_M := (4, cX4_spelled, 3, (some .int), yX4_spelled, 1, 531, 2)
theorem mt_51 : ma_mts 51 = some tt_51 := rfl
abbrev tt_52 : ma_M := (4, cX4_swayTogether, 3, (some .int), yX4_swayTogether, 0, 535, 2)
theorem mt_52 : ma_mts 52 = some tt_52 := rfl
abbrev tt_53 : ma_M := (4, cX4_boughsHungOn, 3, (some .int), yX4_boughsHungOn, 2, 718, 2)
theorem mt_53 : ma_mts 53 = some tt_53 := rfl
abbrev tt_54 : ma_M := (5, cX5_init, 2, none, yX5_init, 2, 19, 1)
theorem mt_54 : ma_mts 54 = some tt_54 := rfl
abbrev tt_55 : ma_M := (5, cX5_feed, 5, (some .int), yX5_feed, 1, 221, 1)
theorem mt_55 : ma_mts 55 = some tt_55 := rfl
abbrev tt_56 : ma_M := (5, cX5_isWithin, 3, (some .boolean), yX5_isWithin, 0, 224, 1)
theorem mt_56 : ma_mts 56 = some tt_56 := rfl
abbrev tt_57 : ma_M := (5, cX5_autumn, 2, (some .int), yX5_autumn, 9, 228, 1)
theorem mt_57 : ma_mts 57 = some tt_57 := rfl
abbrev tt_58 : ma_M := (5, cX5_mostOfLaw, 1, (some .int), yX5_mostOfLaw, 0, 321, 1)
theorem mt_58 : ma_mts 58 = some tt_58 := rfl
abbrev tt_59 : ma_M := (5, cX5_set, 4, (some .int), yX5_set, 1, 369, 1)
theorem mt_59 : ma_mts 59 = some tt_59 := rfl
abbrev tt_60 : ma_M := (5, cX5_lawOf, 2, (some .int), yX5_lawOf, 1, 374, 1)
theorem mt_60 : ma_mts 60 = some tt_60 := rfl
abbrev tt_61 : ma_M := (5, cX5_leaf, 5, (some .int), yX5_leaf, 1, 378, 1)
theorem mt_61 : ma_mts 61 = some tt_61 := rfl
abbrev tt_62 : ma_M := (5, cX5_of, 3, (some .int), yX5_of, 3, 383, 1)
theorem mt_62 : ma_mts 62 = some tt_62 := rfl
abbrev tt_63 : ma_M := (5, cX5_does, 3, (some .int), yX5_does, 4, 410, 1)
theorem mt_63 : ma_mts 63 = some tt_63 := rfl
abbrev tt_64 : ma_M := (5, cX5_mind, 5, (some .int), yX5_mind, 1, 423, 1)
theorem mt_64 : ma_mts 64 = some tt_64 := rfl
abbrev tt_65 : ma_M := (5, cX5_hold, 4, (some .int), yX5_hold, 1, 427, 1)
theorem mt_65 : ma_mts 65 = some tt_65 := rfl
abbrev tt_66 : ma_M := (5, cX5_move, 4, (some .int), yX5_move, 1, 431, 1)
theorem mt_66 : ma_mts 66 = some tt_66 := rfl
abbrev tt_67 : ma_M := (5, cX5_pluck, 2, (some .int), yX5_pluck, 1, 435, 1)
theorem mt_67 : ma_mts 67 = some tt_67 := rfl
abbrev tt_68 : ma_M := (5, cX5_bough, 3, (some .int), yX5_bough, 2, 447, 1)
theorem mt_68 : ma_mts 68 = some tt_68 := rfl
abbrev tt_69 : ma_M := (5, cX5_sway, 4, (some .int), yX5_sway, 1, 452, 1)
theorem mt_69 : ma_mts 69 = some tt_69 := rfl
abbrev tt_70 : ma_M := (5, cX5_days, 3, (some .int), yX5_days, 5, 456, 1)
theorem mt_70 : ma_mts 70 = some tt_70 := rfl
abbrev tt_71 : ma_M := (5, cX5_held, 1, (some .int), yX5_held, 1, 468, 1)
theorem mt_71 : ma_mts 71 = some tt_71 := rfl
abbrev tt_72 : ma_M := (5, cX5_seed, 3, (some .int), yX5_seed, 0, 484, 1)
theorem mt_72 : ma_mts 72 = some tt_72 := rfl
abbrev tt_73 : ma_M := (5, cX5_day, 1, (some .int), yX5_day, 6, 488, 1)
theorem mt_73 : ma_mts 73 = some tt_73 := rfl
abbrev tt_74 : ma_M := (5, cX5_lost, 6, (some .int), yX5_lost, 6, 502, 1)
theorem mt_74 : ma_mts 74 = some tt_74 := rfl
abbrev tt_75 : ma_M := (5, cX5_written, 2, (some .int), yX5_written, 1, 506, 1)
theorem mt_75 : ma_mts 75 = some tt_75 := rfl
abbrev tt_76 : ma_M := (5, cX5_state, 2, (some .int), yX5_state, 2, 514, 1)
theorem mt_76 : ma_mts 76 = some tt_76 := rfl
abbrev tt_77 : ma_M := (5, cX5_falls, 3, (some .int), yX5_falls, 6, 539, 1)
theorem mt_77 : ma_mts 77 = some tt_77 := rfl
abbrev tt_78 : ma_M := (5, cX5_daysToFall, 3, (some .int), yX5_daysToFall, 5, 543, 1)
theorem mt_78 : ma_mts 78 = some tt_78 := rfl
abbrev tt_79 : ma_M := (5, cX5_bare, 2, (some .int), yX5_bare, 5, 547, 1)
theorem mt_79 : ma_mts 79 = some tt_79 := rfl
abbrev tt_80 : ma_M := (5, cX5_next, 3, (some .int), yX5_next, 5, 551, 1)
theorem mt_80 : ma_mts 80 = some tt_80 := rfl
abbrev tt_81 : ma_M := (5, cX5_latest, 4, (some .int), yX5_latest, 5, 555, 1)
theorem mt_81 : ma_mts 81 = some tt_81 := rfl
abbrev tt_82 : ma_M := (5, cX5_boughFor, 6, (some .int), yX5_boughFor, 6, 559, 1)
theorem mt_82 : ma_mts 82 = some tt_82 := rfl
abbrev tt_83 : ma_M := (5, cX5_kindFor, 6, (some .int), yX5_kindFor, 6, 563, 1)
theorem mt_83 : ma_mts 83 = some tt_83 := rfl
abbrev tt_84 : ma_M := (5, cX5_holdFor, 4, (some .int), yX5_holdFor, 6, 567, 1)
theorem mt_84 : ma_mts 84 = some tt_84 := rfl
abbrev tt_85 : ma_M := (5, cX5_hangsBehind, 4, (some .boolean), yX5_hangsBehind, 5, 571, 1)
theorem mt_85 : ma_mts 85 = some tt_85 := rfl
abbrev tt_86 : ma_M := (5, cX5_tiedFor, 7, (some .int), yX5_tiedFor, 6, 575, 1)
theorem mt_86 : ma_mts 86 = some tt_86 := rfl
abbrev tt_87 : ma_M := (5, cX5_fits, 7, (some .int), yX5_fits, 6, 580, 1)
theorem mt_87 : ma_mts 87 = some tt_87 := rfl
abbrev tt_88 : ma_M := (5, cX5_fitsWithHold, 7, (some .boolean), yX5_fitsWithHold, 5, 588, 1)
theorem mt_88 : ma_mts 88 = some tt_88 := rfl
abbrev tt_89 : ma_M := (5, cX5_odds, 11, (some .long), yX5_odds, 1, 593, 1)
theorem mt_89 : ma_mts 89 = some tt_89 := rfl
abbrev tt_90 : ma_M := (5, cX5_ways, 5, (some .long), yX5_ways, 0, 596, 1)
theorem mt_90 : ma_mts 90 = some tt_90 := rfl
abbrev tt_91 : ma_M := (5, cX5_partOf, 12, (some .long), yX5_partOf, 0, 600, 1)
theorem mt_91 : ma_mts 91 = some tt_91 := rfl
abbrev tt_92 : ma_M := (5, cX5_hope, 3, (some .long), yX5_hope, 1, 604, 1)
theorem mt_92 : ma_mts 92 = some tt_92 := rfl
abbrev tt_93 : ma_M := (5, cX5_prove, 5, (some .int), yX5_prove, 5, 608, 1)
theorem mt_93 : ma_mts 93 = some tt_93 := rfl
abbrev tt_94 : ma_M := (5, cX5_rowPartTried, 3, (some .int), yX5_rowPartTried, 1, 612, 1)
theorem mt_94 : ma_mts 94 = some tt_94 := rfl
abbrev tt_95 : ma_M := (5, cX5_row, 3, (some .int), yX5_row, 2, 616, 1)
theorem mt_95 : ma_mts 95 = some tt_95 := rfl
abbrev tt_96 : ma_M := (5, cX5_isRowPart, 3, (some .boolean), yX5_isRowPart, 1, 620, 1)
theorem mt_96 : ma_mts 96 = some tt_96 := rfl
abbrev tt_97 : ma_M := (5, cX5_alterRow, 5, (some .int), yX5_alterRow, 2, 624, 1)
theorem mt_97 : ma_mts 97 = some tt_97 := rfl
abbrev tt_98 : ma_M := (5, cX5_judge, 4, (some .int), yX5_judge, 5, 628, 1)
theorem mt_98 : ma_mts 98 = some tt_98 := rfl
abbrev tt_99 : ma_M := (5, cX5_minds, 7, (some .int), yX5_minds, 2, 632, 1)
theorem mt_99 : ma_mts 99 = some tt_99 := rfl
abbrev tt_100 : ma_M := (5, cX5_sheet, 4, (some .int), yX5_sheet, 1, 637, 1)
theorem mt_100 : ma_mts 100 = some tt_100 := rfl
abbrev tt_101 : ma_M := (5, cX5_put, 5, (some .int), yX5_put, 1, 645, 1)
theorem mt_101 : ma_mts 101 = some tt_101 := rfl
abbrev tt_102 : ma_M := (5, cX5_item, 5, (some .int), yX5_item, 1, 653, 1)
theorem mt_102 : ma_mts 102 = some tt_102 := rfl
abbrev tt_103 : ma_M := (5, cX5_shelf, 5, (some .int), yX5_shelf, 2, 657, 1)
theorem mt_103 : ma_mts 103 = some tt_103 := rfl
abbrev tt_104 : ma_M := (5, cX5_taken, 5, (some .int), yX5_taken, 2, 670, 1)
theorem mt_104 : ma_mts 104 = some tt_104 := rfl
abbrev tt_105 : ma_M := (5, cX5_isNothing, 2, (some .boolean), yX5_isNothing, 1, 674, 1)
theorem mt_105 : ma_mts 105 = some tt_105 := rfl
abbrev tt_106 : ma_M := (5, cX5_isUnder, 2, (some .boolean), yX5_isUnder, 0, 677, 1)
theorem mt_106 : ma_mts 106 = some tt_106 := rfl
abbrev tt_107 : ma_M := (5, cX5_act, 5, (some .int), yX5_act, 5, 681, 1)
theorem mt_107 : ma_mts 107 = some tt_107 := rfl
abbrev tt_108 : ma_M := (5, cX5_trace, 2, (some .int), yX5_trace, 1, 710, 1)
theorem mt_108 : ma_mts 108 = some tt_108 := rfl
abbrev tt_109 : ma_M := (5, cX5_many, 2, (some .int), yX5_many, 3, 714, 1)
theorem mt_109 : ma_mts 109 = some tt_109 := rfl
abbrev tt_110 : ma_M := (5, cX5_keep, 1, (some .int), yX5_keep, 2, 722, 1)
theorem mt_110 : ma_mts 110 = some tt_110 := rfl
abbrev tt_111 : ma_M := (5, cX5_again, 1, (some .int), yX5_again, 2, 726, 1)
theorem mt_111 : ma_mts 111 = some tt_111 := rfl
abbrev tt_112 : ma_M := (6, cX6_init, 1, none, yX6_init, 1, 731, 7)
theorem mt_112 : ma_mts 112 = some tt_112 := rfl
abbrev tt_113 : ma_M := (6, cX6_begins, 3, none, yX6_begins, 0, 736, 7)
theorem mt_113 : ma_mts 113 = some tt_113 := rfl
abbrev tt_114 : ma_M := (6, cX6_feed, 5, (some .int), yX6_feed, 1, 822, 7)
theorem mt_114 : ma_mts 114 = some tt_114 := rfl
abbrev tt_115 : ma_M := (6, cX6_isIn, 6, (some .boolean), yX6_isIn, 0, 826, 7)
theorem mt_115 : ma_mts 115 = some tt_115 := rfl
abbrev tt_116 : ma_M := (6, cX6_autumn, 1, (some .int), yX6_autumn, 7, 831, 7)
theorem mt_116 : ma_mts 116 = some tt_116 := rfl
abbrev tt_117 : ma_M := (6, cX6_copyRow, 3, none, yX6_copyRow, 0, 834, 7)
theorem mt_117 : ma_mts 117 = some tt_117 := rfl
abbrev tt_118 : ma_M := (6, cX6_nextToken, 2, none, yX6_nextToken, 1, 838, 7)
theorem mt_118 : ma_mts 118 = some tt_118 := rfl
abbrev tt_119 : ma_M := (6, cX6_byteAt, 2, (some .int), yX6_byteAt, 0, 842, 7)
theorem mt_119 : ma_mts 119 = some tt_119 := rfl
abbrev tt_120 : ma_M := (6, cX6_isAlpha, 1, (some .boolean), yX6_isAlpha, 0, 845, 7)
theorem mt_120 : ma_mts 120 = some tt_120 := rfl
abbrev tt_121 : ma_M := (6, cX6_isDigit, 1, (some .boolean), yX6_isDigit, 0, 848, 7)
theorem mt_121 : ma_mts 121 = some tt_121 := rfl
abbrev tt_122 : ma_M := (6, cX6_itemHere, 3, none, yX6_itemHere, 6, 852, 7)
theorem mt_122 : ma_mts 122 = some tt_122 := rfl
abbrev tt_123 : ma_M := (6, cX6_kindHere, 1, (some .int), yX6_kindHere, 3, 856, 7)
theorem mt_123 : ma_mts 123 = some tt_123 := rfl
abbrev tt_124 : ma_M := (6, cX6_isFour, 5, (some .boolean), yX6_isFour, 2, 860, 7)
theorem mt_124 : ma_mts 124 = some tt_124 := rfl
abbrev tt_125 : ma_M := (6, cX6_isName, 6, (some .boolean), yX6_isName, 1, 864, 7)
theorem mt_125 : ma_mts 125 = some tt_125 := rfl
abbrev tt_126 : ma_M := (6, cX6_isSame, 5, (some .boolean), yX6_isSame, 1, 868, 7)
theorem mt_126 : ma_mts 126 = some tt_126 := rfl
abbrev tt_127 : ma_M := (6, cX6_lawHere, 1, (some .int), yX6_lawHere, 3, 872, 7)
theorem mt_127 : ma_mts 127 = some tt_127 := rfl
abbrev tt_128 : ma_M := (6, cX6_leafHere, 3, none, yX6_leafHere, 5, 876, 7)
theorem mt_128 : ma_mts 128 = some tt_128 := rfl
abbrev tt_129 : ma_M := (6, cX6_needs, 2, none, yX6_needs, 2, 880, 7)
theorem mt_129 : ma_mts 129 = some tt_129 := rfl
abbrev tt_130 : ma_M := (6, cX6_isTwo, 3, (some .boolean), yX6_isTwo, 1, 884, 7)
theorem mt_130 : ma_mts 130 = some tt_130 := rfl
abbrev tt_131 : ma_M := (6, cX6_numberTo, 4, none, yX6_numberTo, 3, 888, 7)
theorem mt_131 : ma_mts 131 = some tt_131 := rfl
abbrev tt_132 : ma_M := (6, cX6_perhaps, 4, none, yX6_perhaps, 4, 892, 7)
theorem mt_132 : ma_mts 132 = some tt_132 := rfl
abbrev tt_133 : ma_M := (6, cX6_swayHere, 2, none, yX6_swayHere, 4, 896, 7)
theorem mt_133 : ma_mts 133 = some tt_133 := rfl
abbrev tt_134 : ma_M := (6, cX6_set, 3, (some .int), yX6_set, 1, 900, 7)
theorem mt_134 : ma_mts 134 = some tt_134 := rfl
abbrev tt_135 : ma_M := (6, cX6_becomes, 4, (some .int), yX6_becomes, 0, 907, 7)
theorem mt_135 : ma_mts 135 = some tt_135 := rfl
abbrev tt_136 : ma_M := (6, cX6_lawOf, 2, (some .int), yX6_lawOf, 1, 911, 7)
theorem mt_136 : ma_mts 136 = some tt_136 := rfl
abbrev tt_137 : ma_M := (6, cX6_leaf, 6, (some .int), yX6_leaf, 1, 915, 7)
theorem mt_137 : ma_mts 137 = some tt_137 := rfl
abbrev tt_138 : ma_M := (6, cX6_isBough, 1, (some .boolean), yX6_isBough, 0, 919, 7)
theorem mt_138 : ma_mts 138 = some tt_138 := rfl
abbrev tt_139 : ma_M := (6, cX6_of, 3, (some .int), yX6_of, 3, 923, 7)
theorem mt_139 : ma_mts 139 = some tt_139 := rfl
abbrev tt_140 : ma_M := (6, cX6_isOne, 2, (some .boolean), yX6_isOne, 0, 927, 7)
theorem mt_140 : ma_mts 140 = some tt_140 := rfl
abbrev tt_141 : ma_M := (6, cX6_mates, 2, (some .int), yX6_mates, 2, 932, 7)
theorem mt_141 : ma_mts 141 = some tt_141 := rfl
abbrev tt_142 : ma_M := (6, cX6_its, 3, (some .int), yX6_its, 0, 936, 7)
theorem mt_142 : ma_mts 142 = some tt_142 := rfl
abbrev tt_143 : ma_M := (6, cX6_hangingOn, 4, (some .int), yX6_hangingOn, 1, 940, 7)
theorem mt_143 : ma_mts 143 = some tt_143 := rfl
abbrev tt_144 : ma_M := (6, cX6_size, 3, (some .int), yX6_size, 0, 943, 7)
theorem mt_144 : ma_mts 144 = some tt_144 := rfl
abbrev tt_145 : ma_M := (6, cX6_does, 3, (some .int), yX6_does, 4, 947, 7)
theorem mt_145 : ma_mts 145 = some tt_145 := rfl
abbrev tt_146 : ma_M := (6, cX6_loses, 3, (some .int), yX6_loses, 3, 951, 7)
theorem mt_146 : ma_mts 146 = some tt_146 := rfl
abbrev tt_147 : ma_M := (6, cX6_rank, 3, (some .int), yX6_rank, 1, 955, 7)
theorem mt_147 : ma_mts 147 = some tt_147 := rfl
abbrev tt_148 : ma_M := (6, cX6_mind, 4, (some .int), yX6_mind, 1, 959, 7)
theorem mt_148 : ma_mts 148 = some tt_148 := rfl
abbrev tt_149 : ma_M := (6, cX6_hold, 3, (some .int), yX6_hold, 1, 963, 7)
theorem mt_149 : ma_mts 149 = some tt_149 := rfl
abbrev tt_150 : ma_M := (6, cX6_move, 3, (some .int), yX6_move, 1, 967, 7)
theorem mt_150 : ma_mts 150 = some tt_150 := rfl
abbrev tt_151 : ma_M := (6, cX6_pluck, 2, (some .int), yX6_pluck, 2, 971, 7)
theorem mt_151 : ma_mts 151 = some tt_151 := rfl
abbrev tt_152 : ma_M := (6, cX6_falls0, 2, none, yX6_falls0, 0, 975, 7)
theorem mt_152 : ma_mts 152 = some tt_152 := rfl
abbrev tt_153 : ma_M := (6, cX6_hanging, 3, (some .int), yX6_hanging, 1, 979, 7)
theorem mt_153 : ma_mts 153 = some tt_153 := rfl
abbrev tt_154 : ma_M := (6, cX6_bough, 3, (some .int), yX6_bough, 2, 983, 7)
theorem mt_154 : ma_mts 154 = some tt_154 := rfl
abbrev tt_155 : ma_M := (6, cX6_sway, 3, (some .int), yX6_sway, 1, 987, 7)
theorem mt_155 : ma_mts 155 = some tt_155 := rfl
abbrev tt_156 : ma_M := (6, cX6_days, 4, (some .int), yX6_days, 5, 991, 7)
theorem mt_156 : ma_mts 156 = some tt_156 := rfl
abbrev tt_157 : ma_M := (6, cX6_goesBy, 5, (some .int), yX6_goesBy, 4, 996, 7)
theorem mt_157 : ma_mts 157 = some tt_157 := rfl
abbrev tt_158 : ma_M := (6, cX6_within, 1, (some .int), yX6_within, 0, 999, 7)
theorem mt_158 : ma_mts 158 = some tt_158 := rfl
abbrev tt_159 : ma_M := (6, cX6_seed, 2, (some .int), yX6_seed, 1, 1003, 7)
theorem mt_159 : ma_mts 159 = some tt_159 := rfl
abbrev tt_160 : ma_M := (6, cX6_day, 2, (some .int), yX6_day, 6, 1007, 7)
theorem mt_160 : ma_mts 160 = some tt_160 := rfl
abbrev tt_161 : ma_M := (6, cX6_goesByDraws, 2, (some .int), yX6_goesByDraws, 5, 1011, 7)
theorem mt_161 : ma_mts 161 = some tt_161 := rfl
abbrev tt_162 : ma_M := (6, cX6_drawn, 1, (some .int), yX6_drawn, 0, 1015, 7)
theorem mt_162 : ma_mts 162 = some tt_162 := rfl
abbrev tt_163 : ma_M := (6, cX6_lost, 6, (some .int), yX6_lost, 6, 1020, 7)
theorem mt_163 : ma_mts 163 = some tt_163 := rfl
abbrev tt_164 : ma_M := (6, cX6_written, 2, (some .int), yX6_written, 2, 1025, 7)
theorem mt_164 : ma_mts 164 = some tt_164 := rfl
abbrev tt_165 : ma_M := (6, cX6_signOf, 4, (some .int), yX6_signOf, 1, 1029, 7)
theorem mt_165 : ma_mts 165 = some tt_165 := rfl
abbrev tt_166 : ma_M := (6, cX6_state, 2, (some .int), yX6_state, 3, 1033, 7)
theorem mt_166 : ma_mts 166 = some tt_166 := rfl
abbrev tt_167 : ma_M := (6, cX6_holdOfAll, 3, (some .int), yX6_holdOfAll, 1, 1037, 7)
theorem mt_167 : ma_mts 167 = some tt_167 := rfl
abbrev tt_168 : ma_M := (6, cX6_rhymes, 3, (some .int), yX6_rhymes, 2, 1041, 7)
theorem mt_168 : ma_mts 168 = some tt_168 := rfl
abbrev tt_169 : ma_M := (6, cX6_spelled, 3, (some .int), yX6_spelled, 2, 1045, 7)
theorem mt_169 : ma_mts 169 = some tt_169 := rfl
abbrev tt_170 : ma_M := (6, cX6_swayOfAll, 3, (some .int), yX6_swayOfAll, 0, 1049, 7)
theorem mt_170 : ma_mts 170 = some tt_170 := rfl
abbrev tt_171 : ma_M := (6, cX6_falls, 3, (some .int), yX6_falls, 6, 1053, 7)
theorem mt_171 : ma_mts 171 = some tt_171 := rfl
abbrev tt_172 : ma_M := (6, cX6_fallsBy, 4, (some .int), yX6_fallsBy, 5, 1057, 7)
theorem mt_172 : ma_mts 172 = some tt_172 := rfl
abbrev tt_173 : ma_M := (6, cX6_bare, 3, (some .int), yX6_bare, 5, 1061, 7)
theorem mt_173 : ma_mts 173 = some tt_173 := rfl
abbrev tt_174 : ma_M := (6, cX6_next, 3, (some .int), yX6_next, 5, 1065, 7)
theorem mt_174 : ma_mts 174 = some tt_174 := rfl
abbrev tt_175 : ma_M := (6, cX6_latest, 5, (some .int), yX6_latest, 6, 1069, 7)
theorem mt_175 : ma_mts 175 = some tt_175 := rfl
abbrev tt_176 : ma_M := (6, cX6_boughFor, 2, (some .int), yX6_boughFor, 7, 1073, 7)
theorem mt_176 : ma_mts 176 = some tt_176 := rfl
abbrev tt_177 : ma_M := (6, cX6_lastBy, 9, (some .int), yX6_lastBy, 6, 1077, 7)
theorem mt_177 : ma_mts 177 = some tt_177 := rfl
abbrev tt_178 : ma_M := (6, cX6_kindFor, 2, (some .int), yX6_kindFor, 7, 1081, 7)
theorem mt_178 : ma_mts 178 = some tt_178 := rfl
abbrev tt_179 : ma_M := (6, cX6_holdFor, 7, (some .int), yX6_holdFor, 6, 1085, 7)
theorem mt_179 : ma_mts 179 = some tt_179 := rfl
abbrev tt_180 : ma_M := (6, cX6_isShort, 1, (some .boolean), yX6_isShort, 1, 1088, 7)
theorem mt_180 : ma_mts 180 = some tt_180 := rfl
abbrev tt_181 : ma_M := (6, cX6_hangsBehind, 6, (some .boolean), yX6_hangsBehind, 5, 1093, 7)
theorem mt_181 : ma_mts 181 = some tt_181 := rfl
abbrev tt_182 : ma_M := (6, cX6_tiedFor, 7, (some .int), yX6_tiedFor, 6, 1097, 7)
theorem mt_182 : ma_mts 182 = some tt_182 := rfl
abbrev tt_183 : ma_M := (6, cX6_fits, 10, (some .int), yX6_fits, 6, 1101, 7)
theorem mt_183 : ma_mts 183 = some tt_183 := rfl
abbrev tt_184 : ma_M := (6, cX6_isSheet, 1, (some .boolean), yX6_isSheet, 1, 1104, 7)
theorem mt_184 : ma_mts 184 = some tt_184 := rfl
abbrev tt_185 : ma_M := (6, cX6_isTold, 6, (some .boolean), yX6_isTold, 5, 1108, 7)
theorem mt_185 : ma_mts 185 = some tt_185 := rfl
abbrev tt_186 : ma_M := (6, cX6_odds, 9, (some .long), yX6_odds, 1, 1112, 7)
theorem mt_186 : ma_mts 186 = some tt_186 := rfl
abbrev tt_187 : ma_M := (6, cX6_product, 4, (some .long), yX6_product, 0, 1116, 7)
theorem mt_187 : ma_mts 187 = some tt_187 := rfl
abbrev tt_188 : ma_M := (6, cX6_partOf, 11, (some .long), yX6_partOf, 0, 1120, 7)
theorem mt_188 : ma_mts 188 = some tt_188 := rfl
abbrev tt_189 : ma_M := (6, cX6_hope, 3, (some .long), yX6_hope, 1, 1124, 7)
theorem mt_189 : ma_mts 189 = some tt_189 := rfl
abbrev tt_190 : ma_M := (6, cX6_prove, 5, (some .int), yX6_prove, 5, 1128, 7)
theorem mt_190 : ma_mts 190 = some tt_190 := rfl
abbrev tt_191 : ma_M := (6, cX6_row, 3, (some .int), yX6_row, 2, 1133, 7)
theorem mt_191 : ma_mts 191 = some tt_191 := rfl
abbrev tt_192 : ma_M := (6, cX6_isRow, 3, (some .boolean), yX6_isRow, 1, 1137, 7)
theorem mt_192 : ma_mts 192 = some tt_192 := rfl
abbrev tt_193 : ma_M := (6, cX6_alterRow, 5, (some .int), yX6_alterRow, 2, 1142, 7)
theorem mt_193 : ma_mts 193 = some tt_193 := rfl
abbrev tt_194 : ma_M := (6, cX6_judge, 5, (some .int), yX6_judge, 5, 1146, 7)
theorem mt_194 : ma_mts 194 = some tt_194 := rfl
abbrev tt_195 : ma_M := (6, cX6_sheet, 5, (some .int), yX6_sheet, 2, 1150, 7)
theorem mt_195 : ma_mts 195 = some tt_195 := rfl
abbrev tt_196 : ma_M := (6, cX6_put, 4, (some .int), yX6_put, 2, 1154, 7)
theorem mt_196 : ma_mts 196 = some tt_196 := rfl
abbrev tt_197 : ma_M := (6, cX6_item, 4, (some .int), yX6_item, 2, 1158, 7)
theorem mt_197 : ma_mts 197 = some tt_197 := rfl
abbrev tt_198 : ma_M := (6, cX6_lacks, 3, (some .int), yX6_lacks, 0, 1162, 7)
theorem mt_198 : ma_mts 198 = some tt_198 := rfl
abbrev tt_199 : ma_M := (6, cX6_minds, 6, (some .int), yX6_minds, 2, 1166, 7)
theorem mt_199 : ma_mts 199 = some tt_199 := rfl
abbrev tt_200 : ma_M := (6, cX6_shelf, 5, (some .int), yX6_shelf, 2, 1170, 7)
theorem mt_200 : ma_mts 200 = some tt_200 := rfl
abbrev tt_201 : ma_M := (6, cX6_isShelf, 1, (some .boolean), yX6_isShelf, 1, 1173, 7)
theorem mt_201 : ma_mts 201 = some tt_201 := rfl
abbrev tt_202 : ma_M := (6, cX6_taken, 4, (some .int), yX6_taken, 2, 1177, 7)
theorem mt_202 : ma_mts 202 = some tt_202 := rfl
abbrev tt_203 : ma_M := (6, cX6_heldOn, 2, (some .int), yX6_heldOn, 1, 1182, 7)
theorem mt_203 : ma_mts 203 = some tt_203 := rfl
abbrev tt_204 : ma_M := (6, cX6_isUnder, 2, (some .boolean), yX6_isUnder, 0, 1185, 7)
theorem mt_204 : ma_mts 204 = some tt_204 := rfl
abbrev tt_205 : ma_M := (6, cX6_act, 5, (some .int), yX6_act, 8, 1189, 7)
theorem mt_205 : ma_mts 205 = some tt_205 := rfl
abbrev tt_206 : ma_M := (6, cX6_turns, 2, (some .int), yX6_turns, 3, 1193, 7)
theorem mt_206 : ma_mts 206 = some tt_206 := rfl
abbrev tt_207 : ma_M := (6, cX6_turnsOfYellow, 2, (some .int), yX6_turnsOfYellow, 2, 1197, 7)
theorem mt_207 : ma_mts 207 = some tt_207 := rfl
abbrev tt_208 : ma_M := (6, cX6_runs, 2, none, yX6_runs, 0, 1201, 7)
theorem mt_208 : ma_mts 208 = some tt_208 := rfl
abbrev tt_209 : ma_M := (6, cX6_turnsPlain, 2, (some .int), yX6_turnsPlain, 1, 1205, 7)
theorem mt_209 : ma_mts 209 = some tt_209 := rfl
abbrev tt_210 : ma_M := (6, cX6_names, 3, (some .int), yX6_names, 5, 1209, 7)
theorem mt_210 : ma_mts 210 = some tt_210 := rfl
abbrev tt_211 : ma_M := (6, cX6_namesPlain, 2, (some .int), yX6_namesPlain, 4, 1213, 7)
theorem mt_211 : ma_mts 211 = some tt_211 := rfl
abbrev tt_212 : ma_M := (6, cX6_parts, 3, (some .int), yX6_parts, 4, 1217, 7)
theorem mt_212 : ma_mts 212 = some tt_212 := rfl
abbrev tt_213 : ma_M := (6, cX6_partsPlain, 2, (some .int), yX6_partsPlain, 1, 1221, 7)
theorem mt_213 : ma_mts 213 = some tt_213 := rfl
abbrev tt_214 : ma_M := (6, cX6_lands, 3, (some .int), yX6_lands, 7, 1225, 7)
theorem mt_214 : ma_mts 214 = some tt_214 := rfl
abbrev tt_215 : ma_M := (6, cX6_landsPlain, 2, (some .int), yX6_landsPlain, 6, 1229, 7)
theorem mt_215 : ma_mts 215 = some tt_215 := rfl
abbrev tt_216 : ma_M := (6, cX6_trace, 2, (some .int), yX6_trace, 1, 1233, 7)
theorem mt_216 : ma_mts 216 = some tt_216 := rfl
abbrev tt_217 : ma_M := (6, cX6_many, 2, (some .int), yX6_many, 3, 1237, 7)
theorem mt_217 : ma_mts 217 = some tt_217 := rfl
abbrev tt_218 : ma_M := (6, cX6_boughsInUse, 3, (some .int), yX6_boughsInUse, 2, 1241, 7)
theorem mt_218 : ma_mts 218 = some tt_218 := rfl
abbrev tt_219 : ma_M := (6, cX6_keep, 2, (some .int), yX6_keep, 0, 1245, 7)
theorem mt_219 : ma_mts 219 = some tt_219 := rfl
abbrev tt_220 : ma_M := (6, cX6_again, 2, (some .int), yX6_again, 0, 1249, 7)
theorem mt_220 : ma_mts 220 = some tt_220 := rfl
abbrev tt_221 : ma_M := (10, cJ0_length_8abf5, 1, (some .int), yJ0_length_8abf5, 1, 254, 8)
theorem mt_221 : ma_mts 221 = some tt_221 := rfl
abbrev tt_222 : ma_M := (10, cJ0_coder_7d493, 1, (some .byte), yJ0_coder_7d493, 0, 258, 8)
theorem mt_222 : ma_mts 222 = some tt_222 := rfl
abbrev tt_223 : ma_M := (10, cJ0_charAt_5068e, 2, (some .char), yJ0_charAt_5068e, 4, 264, 8)
theorem mt_223 : ma_mts 223 = some tt_223 := rfl
abbrev tt_224 : ma_M := (10, cJ0_isLatin1_aae02, 1, (some .boolean), yJ0_isLatin1_aae02, 0, 268, 8)
theorem mt_224 : ma_mts 224 = some tt_224 := rfl
abbrev tt_225 : ma_M := (10, cJ0_checkIndex_df160, 2, none, yJ0_checkIndex_df160, 1, 274, 8)
theorem mt_225 : ma_mts 225 = some tt_225 := rfl
abbrev tt_226 : ma_M := (11, cJ1_charAt_3b067, 2, (some .char), yJ1_charAt_3b067, 2, 271, 9)
theorem mt_226 : ma_mts 226 = some tt_226 := rfl
abbrev tt_227 : ma_M := (12, cJ2_charAt_3b067, 2, (some .char), yJ2_charAt_3b067, 3, 282, 11)
theorem mt_227 : ma_mts 227 = some tt_227 := rfl
abbrev tt_228 : ma_M := (12, cJ2_checkIndex_2214a, 2, none, yJ2_checkIndex_2214a, 2, 285, 11)
theorem mt_228 : ma_mts 228 = some tt_228 := rfl
abbrev tt_229 : ma_M := (12, cJ2_length_9d52b, 1, (some .int), yJ2_length_9d52b, 0, 288, 11)
theorem mt_229 : ma_mts 229 = some tt_229 := rfl
abbrev tt_230 : ma_M := (12, cJ2_getChar_3b067, 2, (some .char), yJ2_getChar_3b067, 1, 292, 11)
theorem mt_230 : ma_mts 230 = some tt_230 := rfl
abbrev tt_231 : ma_M := (13, cJ3_checkIndex_8e157, 3, (some .int), yJ3_checkIndex_8e157, 0, 279, 10)
theorem mt_231 : ma_mts 231 = some tt_231 := rfl
abbrev tt_232 : ma_M := (16, cJ6_bitCount_0f7a4, 1, (some .int), yJ6_bitCount_0f7a4, 0, 403, 13)
theorem mt_232 : ma_mts 232 = some tt_232 := rfl
abbrev tt_233 : ma_M := (7, cL_law, 4, (some .boolean), yL_law, 10, 0, 0)
theorem mt_233 : ma_mts 233 = some tt_233 := rfl
end
section
/-! ===== blocks (laid by a program: wip/whole/layblk.py) ===== -/
section
variable {xs : Nat → Int32} {L : Nat} {f a : Nat → Nat → Int32} {g : Nat → Nat → Int64}
-- 31 LeafFalls$Tree.clear()V
theorem b31_0 (t : Nat) (l1 : ma_V) (ht : is_tr t) : rn xs L 31 0 [vR t, l1] [] (mw f a g) = rn xs L 31 31 [vR t, vI (0 : Int32)] [] (mw f ((ma_u2 ((ma_u2 ((ma_u2 ((ma_u2 a ((t + 1)) 0 ((2 : Int32)))) ((t + 1)) 1 ((1 : Int32)))) ((t + 1)) 2 ((1 : Int32)))) ((t + 1)) 3 ((20 : Int32)))) g) :=
  (r_ald (pg_of mt_31 dX4_clear_0 rfl) rfl).trans <|
  (r_gtr (a := (t + 1)) (pg_of mt_31 dX4_clear_1 rfl) (mw_tr ht) (mw_tf ht (by decide))).trans <|
  (r_con (pg_of mt_31 dX4_clear_4 rfl) (v2 := (0 : Int32)) (by decide)).trans <|
  (r_con (pg_of mt_31 dX4_clear_5 rfl) (v2 := (2 : Int32)) (by decide)).trans <|
  (r_iasc (j := 0) (pg_of mt_31 dX4_clear_6 rfl) (mw_tr0 ht) (by decide) (by decide)).trans <|
  (r_ald (pg_of mt_31 dX4_clear_7 rfl) rfl).trans <|
  (r_gtr (a := (t + 1)) (pg_of mt_31 dX4_clear_8 rfl) (mw_tr ht) (mw_tf ht (by decide))).trans <|
  (r_con (pg_of mt_31 dX4_clear_11 rfl) (v2 := (1 : Int32)) (by decide)).trans <|
  (r_con (pg_of mt_31 dX4_clear_12 rfl) (v2 := (1 : Int32)) (by decide)).trans <|
  (r_iasc (j := 1) (pg_of mt_31 dX4_clear_13 rfl) (mw_tr0 ht) (by decide) (by decide)).trans <|
  (r_ald (pg_of mt_31 dX4_clear_14 rfl) rfl).trans <|
  (r_gtr (a := (t + 1)) (pg_of mt_31 dX4_clear_15 rfl) (mw_tr ht) (mw_tf ht (by decide))).trans <|
  (r_con (pg_of mt_31 dX4_clear_18 rfl) (v2 := (2 : Int32)) (by decide)).trans <|
  (r_con (pg_of mt_31 dX4_clear_19 rfl) (v2 := (1 : Int32)) (by decide)).trans <|
  (r_iasc (j := 2) (pg_of mt_31 dX4_clear_20 rfl) (mw_tr0 ht) (by decide) (by decide)).trans <|
  (r_ald (pg_of mt_31 dX4_clear_21 rfl) rfl).trans <|
  (r_gtr (a := (t + 1)) (pg_of mt_31 dX4_clear_22 rfl) (mw_tr ht) (mw_tf ht (by decide))).trans <|
  (r_con (pg_of mt_31 dX4_clear_25 rfl) (v2 := (3 : Int32)) (by decide)).trans <|
  (r_con (pg_of mt_31 dX4_clear_26 rfl) (v2 := (20 : Int32)) (by decide)).trans <|
  (r_iasc (j := 3) (pg_of mt_31 dX4_clear_28 rfl) (mw_tr0 ht) (by decide) (by decide)).trans <|
  (r_con (pg_of mt_31 dX4_clear_29 rfl) (v2 := (0 : Int32)) (by decide)).trans <|
  (r_ist (pg_of mt_31 dX4_clear_30 rfl) (Nat.le_of_ble_eq_true rfl) rfl)
theorem b31_31 (t : Nat) (l1 : Int32) (ht : is_tr t) : rn xs L 31 31 [vR t, vI l1] [] (mw f a g) = if l1 < (6 : Int32) then rn xs L 31 37 [vR t, vI l1] [] (mw f a g) else rn xs L 31 50 [vR t, vI l1] [] (mw f a g) :=
  (r_ild (pg_of mt_31 dX4_clear_31 rfl) rfl).trans <|
  (r_con (pg_of mt_31 dX4_clear_32 rfl) (v2 := (6 : Int32)) (by decide)).trans <|
  (r_ge (pg_of mt_31 dX4_clear_34 rfl))
theorem b31_37 (t : Nat) (l1 : Int32) (ht : is_tr t) (h1 : ma_in l1 6 = true) : rn xs L 31 37 [vR t, vI l1] [] (mw f a g) = rn xs L 31 31 [vR t, vI (l1 + (1 : Int32))] [] (mw f ((ma_u2 a ((t + 2)) l1.toNatClampNeg ((1 : Int32)))) g) :=
  (r_ald (pg_of mt_31 dX4_clear_37 rfl) rfl).trans <|
  (r_gtr (a := (t + 2)) (pg_of mt_31 dX4_clear_38 rfl) (mw_tr ht) (mw_tf ht (by decide))).trans <|
  (r_ild (pg_of mt_31 dX4_clear_41 rfl) rfl).trans <|
  (r_con (pg_of mt_31 dX4_clear_42 rfl) (v2 := (1 : Int32)) (by decide)).trans <|
  (r_iast (pg_of mt_31 dX4_clear_43 rfl) (mw_tr1 ht) h1).trans <|
  (r_inc (pg_of mt_31 dX4_clear_44 rfl) (y := (1 : Int32)) (by decide) rfl rfl).trans <|
  (r_gto (pg_of mt_31 dX4_clear_47 rfl))
theorem b31_50 (t : Nat) (l1 : Int32) (ht : is_tr t) : rn xs L 31 50 [vR t, vI l1] [] (mw f a g) = some (none, (mw ((ma_u2 ((ma_u2 ((ma_u2 ((ma_u2 f t 7 ((0 : Int32)))) t 8 ((0 : Int32)))) t 9 ((0 : Int32)))) t 11 ((0 : Int32)))) a g)) :=
  (r_ald (pg_of mt_31 dX4_clear_50 rfl) rfl).trans <|
  (r_con (pg_of mt_31 dX4_clear_51 rfl) (v2 := (0 : Int32)) (by decide)).trans <|
  (r_pti (pg_of mt_31 dX4_clear_52 rfl) (mw_tr ht) rfl).trans <|
  (r_ald (pg_of mt_31 dX4_clear_55 rfl) rfl).trans <|
  (r_con (pg_of mt_31 dX4_clear_56 rfl) (v2 := (0 : Int32)) (by decide)).trans <|
  (r_pti (pg_of mt_31 dX4_clear_57 rfl) (mw_tr ht) rfl).trans <|
  (r_ald (pg_of mt_31 dX4_clear_60 rfl) rfl).trans <|
  (r_con (pg_of mt_31 dX4_clear_61 rfl) (v2 := (0 : Int32)) (by decide)).trans <|
  (r_pti (pg_of mt_31 dX4_clear_62 rfl) (mw_tr ht) rfl).trans <|
  (r_ald (pg_of mt_31 dX4_clear_65 rfl) rfl).trans <|
  (r_con (pg_of mt_31 dX4_clear_66 rfl) (v2 := (0 : Int32)) (by decide)).trans <|
  (r_pti (pg_of mt_31 dX4_clear_67 rfl) (mw_tr ht) rfl).trans <|
  (r_rv (pg_of mt_31 dX4_clear_70 rfl) mt_31 rfl)
-- 32 LeafFalls$Tree.grow(IIII)V
theorem b32_0 (t : Nat) (l1 : Int32) (l2 : Int32) (l3 : Int32) (l4 : Int32) (ht : is_tr t) : rn xs L 32 0 [vR t, vI l1, vI l2, vI l3, vI l4] [] (mw f a g) = if (f t 7) < (8 : Int32) then rn xs L 32 10 [vR t, vI l1, vI l2, vI l3, vI l4] [] (mw f a g) else rn xs L 32 9 [vR t, vI l1, vI l2, vI l3, vI l4] [] (mw f a g) :=
  (r_ald (pg_of mt_32 dX4_grow_0 rfl) rfl).trans <|
  (r_gti (pg_of mt_32 dX4_grow_1 rfl) (mw_tr ht)).trans <|
  (r_con (pg_of mt_32 dX4_grow_4 rfl) (v2 := (8 : Int32)) (by decide)).trans <|
  (r_lt (pg_of mt_32 dX4_grow_6 rfl))
theorem b32_9 (t : Nat) (l1 : Int32) (l2 : Int32) (l3 : Int32) (l4 : Int32) (ht : is_tr t) : rn xs L 32 9 [vR t, vI l1, vI l2, vI l3, vI l4] [] (mw f a g) = some (none, (mw f a g)) :=
  (r_rv (pg_of mt_32 dX4_grow_9 rfl) mt_32 rfl)
theorem b32_10 (t : Nat) (l1 : Int32) (l2 : Int32) (l3 : Int32) (l4 : Int32) (ht : is_tr t) (h1 : ma_in ((f t 7)) 8 = true) (h2 : ma_in ((f t 7)) 8 = true) (h3 : ma_in ((f t 7)) 8 = true) (h4 : ma_in ((f t 7)) 8 = true) (h5 : ma_in ((f t 7)) 8 = true) : rn xs L 32 10 [vR t, vI l1, vI l2, vI l3, vI l4] [] (mw f a g) = some (none, (mw ((ma_u2 f t 7 (((f t 7) + (1 : Int32))))) ((ma_u2 ((ma_u2 ((ma_u2 ((ma_u2 ((ma_u2 a ((t + 3)) ((f t 7)).toNatClampNeg l1)) ((t + 4)) ((f t 7)).toNatClampNeg l2)) ((t + 5)) ((f t 7)).toNatClampNeg l3)) ((t + 6)) ((f t 7)).toNatClampNeg l4)) ((t + 7)) ((f t 7)).toNatClampNeg ((0 : Int32)))) g)) :=
  (r_ald (pg_of mt_32 dX4_grow_10 rfl) rfl).trans <|
  (r_gtr (a := (t + 3)) (pg_of mt_32 dX4_grow_11 rfl) (mw_tr ht) (mw_tf ht (by decide))).trans <|
  (r_ald (pg_of mt_32 dX4_grow_14 rfl) rfl).trans <|
  (r_gti (pg_of mt_32 dX4_grow_15 rfl) (mw_tr ht)).trans <|
  (r_ild (pg_of mt_32 dX4_grow_18 rfl) rfl).trans <|
  (r_iast (pg_of mt_32 dX4_grow_19 rfl) (mw_tr2 ht) h1).trans <|
  (r_ald (pg_of mt_32 dX4_grow_20 rfl) rfl).trans <|
  (r_gtr (a := (t + 4)) (pg_of mt_32 dX4_grow_21 rfl) (mw_tr ht) (mw_tf ht (by decide))).trans <|
  (r_ald (pg_of mt_32 dX4_grow_24 rfl) rfl).trans <|
  (r_gti (pg_of mt_32 dX4_grow_25 rfl) (mw_tr ht)).trans <|
  (r_ild (pg_of mt_32 dX4_grow_28 rfl) rfl).trans <|
  (r_iast (pg_of mt_32 dX4_grow_29 rfl) (mw_tr3 ht) h2).trans <|
  (r_ald (pg_of mt_32 dX4_grow_30 rfl) rfl).trans <|
  (r_gtr (a := (t + 5)) (pg_of mt_32 dX4_grow_31 rfl) (mw_tr ht) (mw_tf ht (by decide))).trans <|
  (r_ald (pg_of mt_32 dX4_grow_34 rfl) rfl).trans <|
  (r_gti (pg_of mt_32 dX4_grow_35 rfl) (mw_tr ht)).trans <|
  (r_ild (pg_of mt_32 dX4_grow_38 rfl) rfl).trans <|
  (r_iast (pg_of mt_32 dX4_grow_39 rfl) (mw_tr4 ht) h3).trans <|
  (r_ald (pg_of mt_32 dX4_grow_40 rfl) rfl).trans <|
  (r_gtr (a := (t + 6)) (pg_of mt_32 dX4_grow_41 rfl) (mw_tr ht) (mw_tf ht (by decide))).trans <|
  (r_ald (pg_of mt_32 dX4_grow_44 rfl) rfl).trans <|
  (r_gti (pg_of mt_32 dX4_grow_45 rfl) (mw_tr ht)).trans <|
  (r_ild (pg_of mt_32 dX4_grow_48 rfl) rfl).trans <|
  (r_iast (pg_of mt_32 dX4_grow_50 rfl) (mw_tr5 ht) h4).trans <|
  (r_ald (pg_of mt_32 dX4_grow_51 rfl) rfl).trans <|
  (r_gtr (a := (t + 7)) (pg_of mt_32 dX4_grow_52 rfl) (mw_tr ht) (mw_tf ht (by decide))).trans <|
  (r_ald (pg_of mt_32 dX4_grow_55 rfl) rfl).trans <|
  (r_gti (pg_of mt_32 dX4_grow_56 rfl) (mw_tr ht)).trans <|
  (r_con (pg_of mt_32 dX4_grow_59 rfl) (v2 := (0 : Int32)) (by decide)).trans <|
  (r_iast (pg_of mt_32 dX4_grow_60 rfl) (mw_tr6 ht) h5).trans <|
  (r_ald (pg_of mt_32 dX4_grow_61 rfl) rfl).trans <|
  (r_dup (pg_of mt_32 dX4_grow_62 rfl) rfl).trans <|
  (r_gti (pg_of mt_32 dX4_grow_63 rfl) (mw_tr ht)).trans <|
  (r_con (pg_of mt_32 dX4_grow_66 rfl) (v2 := (1 : Int32)) (by decide)).trans <|
  (r_bin (pg_of mt_32 dX4_grow_67 rfl)).trans <|
  (r_pti (pg_of mt_32 dX4_grow_68 rfl) (mw_tr ht) rfl).trans <|
  (r_rv (pg_of mt_32 dX4_grow_71 rfl) mt_32 rfl)
-- 33 LeafFalls$Tree.become(LLeafFalls$Tree;)V
theorem b33_0 (t : Nat) (l1 : Nat) (ht : is_tr t) (hl1 : is_tr l1) : rn xs L 33 0 [vR t, vR l1] [] (mw f a g) = some (none, (mw ((ma_u2 ((ma_u2 ((ma_u2 ((ma_u2 ((ma_u2 f t 7 ((f l1 7)))) t 8 ((((ma_u2 f t 7 ((f l1 7)))) l1 8)))) t 9 ((((ma_u2 ((ma_u2 f t 7 ((f l1 7)))) t 8 ((((ma_u2 f t 7 ((f l1 7)))) l1 8)))) l1 9)))) t 10 ((((ma_u2 ((ma_u2 ((ma_u2 f t 7 ((f l1 7)))) t 8 ((((ma_u2 f t 7 ((f l1 7)))) l1 8)))) t 9 ((((ma_u2 ((ma_u2 f t 7 ((f l1 7)))) t 8 ((((ma_u2 f t 7 ((f l1 7)))) l1 8)))) l1 9)))) l1 10)))) t 11 ((0 : Int32)))) ((ma_u1 ((ma_u1 ((ma_u1 ((ma_u1 ((ma_u1 ((ma_u1 ((ma_u1 a ((t + 1)) (va_cpy (a ((l1 + 1))) (a ((t + 1))) 0 0 4))) ((t + 2)) (va_cpy (((ma_u1 a ((t + 1)) (va_cpy (a ((l1 + 1))) (a ((t + 1))) 0 0 4))) ((l1 + 2))) (((ma_u1 a ((t + 1)) (va_cpy (a ((l1 + 1))) (a ((t + 1))) 0 0 4))) ((t + 2))) 0 0 6))) ((t + 3)) (va_cpy (((ma_u1 ((ma_u1 a ((t + 1)) (va_cpy (a ((l1 + 1))) (a ((t + 1))) 0 0 4))) ((t + 2)) (va_cpy (((ma_u1 a ((t + 1)) (va_cpy (a ((l1 + 1))) (a ((t + 1))) 0 0 4))) ((l1 + 2))) (((ma_u1 a ((t + 1)) (va_cpy (a ((l1 + 1))) (a ((t + 1))) 0 0 4))) ((t + 2))) 0 0 6))) ((l1 + 3))) (((ma_u1 ((ma_u1 a ((t + 1)) (va_cpy (a ((l1 + 1))) (a ((t + 1))) 0 0 4))) ((t + 2)) (va_cpy (((ma_u1 a ((t + 1)) (va_cpy (a ((l1 + 1))) (a ((t + 1))) 0 0 4))) ((l1 + 2))) (((ma_u1 a ((t + 1)) (va_cpy (a ((l1 + 1))) (a ((t + 1))) 0 0 4))) ((t + 2))) 0 0 6))) ((t + 3))) 0 0 8))) ((t + 4)) (va_cpy (((ma_u1 ((ma_u1 ((ma_u1 a ((t + 1)) (va_cpy (a ((l1 + 1))) (a ((t + 1))) 0 0 4))) ((t + 2)) (va_cpy (((ma_u1 a ((t + 1)) (va_cpy (a ((l1 + 1))) (a ((t + 1))) 0 0 4))) ((l1 + 2))) (((ma_u1 a ((t + 1)) (va_cpy (a ((l1 + 1))) (a ((t + 1))) 0 0 4))) ((t + 2))) 0 0 6))) ((t + 3)) (va_cpy (((ma_u1 ((ma_u1 a ((t + 1)) (va_cpy (a ((l1 + 1))) (a ((t + 1))) 0 0 4))) ((t + 2)) (va_cpy (((ma_u1 a ((t + 1)) (va_cpy (a ((l1 + 1))) (a ((t + 1))) 0 0 4))) ((l1 + 2))) (((ma_u1 a ((t + 1)) (va_cpy (a ((l1 + 1))) (a ((t + 1))) 0 0 4))) ((t + 2))) 0 0 6))) ((l1 + 3))) (((ma_u1 ((ma_u1 a ((t + 1)) (va_cpy (a ((l1 + 1))) (a ((t + 1))) 0 0 4))) ((t + 2)) (va_cpy (((ma_u1 a ((t + 1)) (va_cpy (a ((l1 + 1))) (a ((t + 1))) 0 0 4))) ((l1 + 2))) (((ma_u1 a ((t + 1)) (va_cpy (a ((l1 + 1))) (a ((t + 1))) 0 0 4))) ((t + 2))) 0 0 6))) ((t + 3))) 0 0 8))) ((l1 + 4))) (((ma_u1 ((ma_u1 ((ma_u1 a ((t + 1)) (va_cpy (a ((l1 + 1))) (a ((t + 1))) 0 0 4))) ((t + 2)) (va_cpy (((ma_u1 a ((t + 1)) (va_cpy (a ((l1 + 1))) (a ((t + 1))) 0 0 4))) ((l1 + 2))) (((ma_u1 a ((t + 1)) (va_cpy (a ((l1 + 1))) (a ((t + 1))) 0 0 4))) ((t + 2))) 0 0 6))) ((t + 3)) (va_cpy (((ma_u1 ((ma_u1 a ((t + 1)) (va_cpy (a ((l1 + 1))) (a ((t + 1))) 0 0 4))) ((t + 2)) (va_cpy (((ma_u1 a ((t + 1)) (va_cpy (a ((l1 + 1))) (a ((t + 1))) 0 0 4))) ((l1 + 2))) (((ma_u1 a ((t + 1)) (va_cpy (a ((l1 + 1))) (a ((t + 1))) 0 0 4))) ((t + 2))) 0 0 6))) ((l1 + 3))) (((ma_u1 ((ma_u1 a ((t + 1)) (va_cpy (a ((l1 + 1))) (a ((t + 1))) 0 0 4))) ((t + 2)) (va_cpy (((ma_u1 a ((t + 1)) (va_cpy (a ((l1 + 1))) (a ((t + 1))) 0 0 4))) ((l1 + 2))) (((ma_u1 a ((t + 1)) (va_cpy (a ((l1 + 1))) (a ((t + 1))) 0 0 4))) ((t + 2))) 0 0 6))) ((t + 3))) 0 0 8))) ((t + 4))) 0 0 8))) ((t + 5)) (va_cpy (((ma_u1 ((ma_u1 ((ma_u1 ((ma_u1 a ((t + 1)) (va_cpy (a ((l1 + 1))) (a ((t + 1))) 0 0 4))) ((t + 2)) (va_cpy (((ma_u1 a ((t + 1)) (va_cpy (a ((l1 + 1))) (a ((t + 1))) 0 0 4))) ((l1 + 2))) (((ma_u1 a ((t + 1)) (va_cpy (a ((l1 + 1))) (a ((t + 1))) 0 0 4))) ((t + 2))) 0 0 6))) ((t + 3)) (va_cpy (((ma_u1 ((ma_u1 a ((t + 1)) (va_cpy (a ((l1 + 1))) (a ((t + 1))) 0 0 4))) ((t + 2)) (va_cpy (((ma_u1 a ((t + 1)) (va_cpy (a ((l1 + 1))) (a ((t + 1))) 0 0 4))) ((l1 + 2))) (((ma_u1 a ((t + 1)) (va_cpy (a ((l1 + 1))) (a ((t + 1))) 0 0 4))) ((t + 2))) 0 0 6))) ((l1 + 3))) (((ma_u1 ((ma_u1 a ((t + 1)) (va_cpy (a ((l1 + 1))) (a ((t + 1))) 0 0 4))) ((t + 2)) (va_cpy (((ma_u1 a ((t + 1)) (va_cpy (a ((l1 + 1))) (a ((t + 1))) 0 0 4))) ((l1 + 2))) (((ma_u1 a ((t + 1)) (va_cpy (a ((l1 + 1))) (a ((t + 1))) 0 0 4))) ((t + 2))) 0 0 6))) ((t + 3))) 0 0 8))) ((t + 4)) (va_cpy (((ma_u1 ((ma_u1 ((ma_u1 a ((t + 1)) (va_cpy (a ((l1 + 1))) (a ((t + 1))) 0 0 4))) ((t + 2)) (va_cpy (((ma_u1 a ((t + 1)) (va_cpy (a ((l1 + 1))) (a ((t + 1))) 0 0 4))) ((l1 + 2))) (((ma_u1 a ((t + 1)) (va_cpy (a ((l1 + 1))) (a ((t + 1))) 0 0 4))) ((t + 2))) 0 0 6))) ((t + 3)) (va_cpy (((ma_u1 ((ma_u1 a ((t + 1)) (va_cpy (a ((l1 + 1))) (a ((t + 1))) 0 0 4))) ((t + 2)) (va_cpy (((ma_u1 a ((t + 1)) (va_cpy (a ((l1 + 1))) (a ((t + 1))) 0 0 4))) ((l1 + 2))) (((ma_u1 a ((t + 1)) (va_cpy (a ((l1 + 1))) (a ((t + 1))) 0 0 4))) ((t + 2))) 0 0 6))) ((l1 + 3))) (((ma_u1 ((ma_u1 a ((t + 1)) (va_cpy (a ((l1 + 1))) (a ((t + 1))) 0 0 4))) ((t + 2)) (va_cpy (((ma_u1 a ((t + 1)) (va_cpy (a ((l1 + 1))) (a ((t + 1))) 0 0 4))) ((l1 + 2))) (((ma_u1 a ((t + 1)) (va_cpy (a ((l1 + 1))) (a ((t + 1))) 0 0 4))) ((t + 2))) 0 0 6))) ((t + 3))) 0 0 8))) ((l1 + 4))) (((ma_u1 ((ma_u1 ((ma_u1 a ((t + 1)) (va_cpy (a ((l1 + 1))) (a ((t + 1))) 0 0 4))) ((t + 2)) (va_cpy (((ma_u1 a ((t + 1)) (va_cpy (a ((l1 + 1))) (a ((t + 1))) 0 0 4))) ((l1 + 2))) (((ma_u1 a ((t + 1)) (va_cpy (a ((l1 + 1))) (a ((t + 1))) 0 0 4))) ((t + 2))) 0 0 6))) ((t + 3)) (va_cpy (((ma_u1 ((ma_u1 a ((t + 1)) (va_cpy (a ((l1 + 1))) (a ((t + 1))) 0 0 4))) ((t + 2)) (va_cpy (((ma_u1 a ((t + 1)) (va_cpy (a ((l1 + 1))) (a ((t + 1))) 0 0 4))) ((l1 + 2))) (((ma_u1 a ((t + 1)) (va_cpy (a ((l1 + 1))) (a ((t + 1))) 0 0 4))) ((t + 2))) 0 0 6))) ((l1 + 3))) (((ma_u1 ((ma_u1 a ((t + 1)) (va_cpy (a ((l1 + 1))) (a ((t + 1))) 0 0 4))) ((t + 2)) (va_cpy (((ma_u1 a ((t + 1)) (va_cpy (a ((l1 + 1))) (a ((t + 1))) 0 0 4))) ((l1 + 2))) (((ma_u1 a ((t + 1)) (va_cpy (a ((l1 + 1))) (a ((t + 1))) 0 0 4))) ((t + 2))) 0 0 6))) ((t + 3))) 0 0 8))) ((t + 4))) 0 0 8))) ((l1 + 5))) (((ma_u1 ((ma_u1 ((ma_u1 ((ma_u1 a ((t + 1)) (va_cpy (a ((l1 + 1))) (a ((t + 1))) 0 0 4))) ((t + 2)) (va_cpy (((ma_u1 a ((t + 1)) (va_cpy (a ((l1 + 1))) (a ((t + 1))) 0 0 4))) ((l1 + 2))) (((ma_u1 a ((t + 1)) (va_cpy (a ((l1 + 1))) (a ((t + 1))) 0 0 4))) ((t + 2))) 0 0 6))) ((t + 3)) (va_cpy (((ma_u1 ((ma_u1 a ((t + 1)) (va_cpy (a ((l1 + 1))) (a ((t + 1))) 0 0 4))) ((t + 2)) (va_cpy (((ma_u1 a ((t + 1)) (va_cpy (a ((l1 + 1))) (a ((t + 1))) 0 0 4))) ((l1 + 2))) (((ma_u1 a ((t + 1)) (va_cpy (a ((l1 + 1))) (a ((t + 1))) 0 0 4))) ((t + 2))) 0 0 6))) ((l1 + 3))) (((ma_u1 ((ma_u1 a ((t + 1)) (va_cpy (a ((l1 + 1))) (a ((t + 1))) 0 0 4))) ((t + 2)) (va_cpy (((ma_u1 a ((t + 1)) (va_cpy (a ((l1 + 1))) (a ((t + 1))) 0 0 4))) ((l1 + 2))) (((ma_u1 a ((t + 1)) (va_cpy (a ((l1 + 1))) (a ((t + 1))) 0 0 4))) ((t + 2))) 0 0 6))) ((t + 3))) 0 0 8))) ((t + 4)) (va_cpy (((ma_u1 ((ma_u1 ((ma_u1 a ((t + 1)) (va_cpy (a ((l1 + 1))) (a ((t + 1))) 0 0 4))) ((t + 2)) (va_cpy (((ma_u1 a ((t + 1)) (va_cpy (a ((l1 + 1))) (a ((t + 1))) 0 0 4))) ((l1 + 2))) (((ma_u1 a ((t + 1)) (va_cpy (a ((l1 + 1))) (a ((t + 1))) 0 0 4))) ((t + 2))) 0 0 6))) ((t + 3)) (va_cpy (((ma_u1 ((ma_u1 a ((t + 1)) (va_cpy (a ((l1 + 1))) (a ((t + 1))) 0 0 4))) ((t + 2)) (va_cpy (((ma_u1 a ((t + 1)) (va_cpy (a ((l1 + 1))) (a ((t + 1))) 0 0 4))) ((l1 + 2))) (((ma_u1 a ((t + 1)) (va_cpy (a ((l1 + 1))) (a ((t + 1))) 0 0 4))) ((t + 2))) 0 0 6))) ((l1 + 3))) (((ma_u1 ((ma_u1 a ((t + 1)) (va_cpy (a ((l1 + 1))) (a ((t + 1))) 0 0 4))) ((t + 2)) (va_cpy (((ma_u1 a ((t + 1)) (va_cpy (a ((l1 + 1))) (a ((t + 1))) 0 0 4))) ((l1 + 2))) (((ma_u1 a ((t + 1)) (va_cpy (a ((l1 + 1))) (a ((t + 1))) 0 0 4))) ((t + 2))) 0 0 6))) ((t + 3))) 0 0 8))) ((l1 + 4))) (((ma_u1 ((ma_u1 ((ma_u1 a ((t + 1)) (va_cpy (a ((l1 + 1))) (a ((t + 1))) 0 0 4))) ((t + 2)) (va_cpy (((ma_u1 a ((t + 1)) (va_cpy (a ((l1 + 1))) (a ((t + 1))) 0 0 4))) ((l1 + 2))) (((ma_u1 a ((t + 1)) (va_cpy (a ((l1 + 1))) (a ((t + 1))) 0 0 4))) ((t + 2))) 0 0 6))) ((t + 3)) (va_cpy (((ma_u1 ((ma_u1 a ((t + 1)) (va_cpy (a ((l1 + 1))) (a ((t + 1))) 0 0 4))) ((t + 2)) (va_cpy (((ma_u1 a ((t + 1)) (va_cpy (a ((l1 + 1))) (a ((t + 1))) 0 0 4))) ((l1 + 2))) (((ma_u1 a ((t + 1)) (va_cpy (a ((l1 + 1))) (a ((t + 1))) 0 0 4))) ((t + 2))) 0 0 6))) ((l1 + 3))) (((ma_u1 ((ma_u1 a ((t + 1)) (va_cpy (a ((l1 + 1))) (a ((t + 1))) 0 0 4))) ((t + 2)) (va_cpy (((ma_u1 a ((t + 1)) (va_cpy (a ((l1 + 1))) (a ((t + 1))) 0 0 4))) ((l1 + 2))) (((ma_u1 a ((t + 1)) (va_cpy (a ((l1 + 1))) (a ((t + 1))) 0 0 4))) ((t + 2))) 0 0 6))) ((t + 3))) 0 0 8))) ((t + 4))) 0 0 8))) ((t + 5))) 0 0 8))) ((t + 6)) (va_cpy (((ma_u1 ((ma_u1 ((ma_u1 ((ma_u1 ((ma_u1 a ((t + 1)) (va_cpy (a ((l1 + 1))) (a ((t + 1))) 0 0 4))) ((t + 2)) (va_cpy (((ma_u1 a ((t + 1)) (va_cpy (a ((l1 + 1))) (a ((t + 1))) 0 0 4))) ((l1 + 2))) (((ma_u1 a ((t + 1)) (va_cpy (a ((l1 + 1))) (a ((t + 1))) 0 0 4))) ((t + 2))) 0 0 6))) ((t + 3)) (va_cpy (((ma_u1 ((ma_u1 a ((t + 1)) (va_cpy (a ((l1 + 1))) (a ((t + 1))) 0 0 4))) ((t + 2)) (va_cpy (((ma_u1 a ((t + 1)) (va_cpy (a ((l1 + 1))) (a ((t + 1))) 0 0 4))) ((l1 + 2))) (((ma_u1 a ((t + 1)) (va_cpy (a ((l1 + 1))) (a ((t + 1))) 0 0 4))) ((t + 2))) 0 0 6))) ((l1 + 3))) (((ma_u1 ((ma_u1 a ((t + 1)) (va_cpy (a ((l1 + 1))) (a ((t + 1))) 0 0 4))) ((t + 2)) (va_cpy (((ma_u1 a ((t + 1)) (va_cpy (a ((l1 + 1))) (a ((t + 1))) 0 0 4))) ((l1 + 2))) (((ma_u1 a ((t + 1)) (va_cpy (a ((l1 + 1))) (a ((t + 1))) 0 0 4))) ((t + 2))) 0 0 6))) ((t + 3))) 0 0 8))) ((t + 4)) (va_cpy (((ma_u1 ((ma_u1 ((ma_u1 a ((t + 1)) (va_cpy (a ((l1 + 1))) (a ((t + 1))) 0 0 4))) ((t + 2)) (va_cpy (((ma_u1 a ((t + 1)) (va_cpy (a ((l1 + 1))) (a ((t + 1))) 0 0 4))) ((l1 + 2))) (((ma_u1 a ((t + 1)) (va_cpy (a ((l1 + 1))) (a ((t + 1))) 0 0 4))) ((t + 2))) 0 0 6))) ((t + 3)) (va_cpy (((ma_u1 ((ma_u1 a ((t + 1)) (va_cpy (a ((l1 + 1))) (a ((t + 1))) 0 0 4))) ((t + 2)) (va_cpy (((ma_u1 a ((t + 1)) (va_cpy (a ((l1 + 1))) (a ((t + 1))) 0 0 4))) ((l1 + 2))) (((ma_u1 a ((t + 1)) (va_cpy (a ((l1 + 1))) (a ((t + 1))) 0 0 4))) ((t + 2))) 0 0 6))) ((l1 + 3))) (((ma_u1 ((ma_u1 a ((t + 1)) (va_cpy (a ((l1 + 1))) (a ((t + 1))) 0 0 4))) ((t + 2)) (va_cpy (((ma_u1 a ((t + 1)) (va_cpy (a ((l1 + 1))) (a ((t + 1))) 0 0 4))) ((l1 + 2))) (((ma_u1 a ((t + 1)) (va_cpy (a ((l1 + 1))) (a ((t + 1))) 0 0 4))) ((t + 2))) 0 0 6))) ((t + 3))) 0 0 8))) ((l1 + 4))) (((ma_u1 ((ma_u1 ((ma_u1 a ((t + 1)) (va_cpy (a ((l1 + 1))) (a ((t + 1))) 0 0 4))) ((t + 2)) (va_cpy (((ma_u1 a ((t + 1)) (va_cpy (a ((l1 + 1))) (a ((t + 1))) 0 0 4))) ((l1 + 2))) (((ma_u1 a ((t + 1)) (va_cpy (a ((l1 + 1))) (a ((t + 1))) 0 0 4))) ((t + 2))) 0 0 6))) ((t + 3)) (va_cpy (((ma_u1 ((ma_u1 a ((t + 1)) (va_cpy (a ((l1 + 1))) (a ((t + 1))) 0 0 4))) ((t + 2)) (va_cpy (((ma_u1 a ((t + 1)) (va_cpy (a ((l1 + 1))) (a ((t + 1))) 0 0 4))) ((l1 + 2))) (((ma_u1 a ((t + 1)) (va_cpy (a ((l1 + 1))) (a ((t + 1))) 0 0 4))) ((t + 2))) 0 0 6))) ((l1 + 3))) (((ma_u1 ((ma_u1 a ((t + 1)) (va_cpy (a ((l1 + 1))) (a ((t + 1))) 0 0 4))) ((t + 2)) (va_cpy (((ma_u1 a ((t + 1)) (va_cpy (a ((l1 + 1))) (a ((t + 1))) 0 0 4))) ((l1 + 2))) (((ma_u1 a ((t + 1)) (va_cpy (a ((l1 + 1))) (a ((t + 1))) 0 0 4))) ((t + 2))) 0 0 6))) ((t + 3))) 0 0 8))) ((t + 4))) 0 0 8))) ((t + 5)) (va_cpy (((ma_u1 ((ma_u1 ((ma_u1 ((ma_u1 a ((t + 1)) (va_cpy (a ((l1 + 1))) (a ((t + 1))) 0 0 4))) ((t + 2)) (va_cpy (((ma_u1 a ((t + 1)) (va_cpy (a ((l1 + 1))) (a ((t + 1))) 0 0 4))) ((l1 + 2))) (((ma_u1 a ((t + 1)) (va_cpy (a ((l1 + 1))) (a ((t + 1))) 0 0 4))) ((t + 2))) 0 0 6))) ((t + 3)) (va_cpy (((ma_u1 ((ma_u1 a ((t + 1)) (va_cpy (a ((l1 + 1))) (a ((t + 1))) 0 0 4))) ((t + 2)) (va_cpy (((ma_u1 a ((t + 1)) (va_cpy (a ((l1 + 1))) (a ((t + 1))) 0 0 4))) ((l1 + 2))) (((ma_u1 a ((t + 1)) (va_cpy (a ((l1 + 1))) (a ((t + 1))) 0 0 4))) ((t + 2))) 0 0 6))) ((l1 + 3))) (((ma_u1 ((ma_u1 a ((t + 1)) (va_cpy (a ((l1 + 1))) (a ((t + 1))) 0 0 4))) ((t + 2)) (va_cpy (((ma_u1 a ((t + 1)) (va_cpy (a ((l1 + 1))) (a ((t + 1))) 0 0 4))) ((l1 + 2))) (((ma_u1 a ((t + 1)) (va_cpy (a ((l1 + 1))) (a ((t + 1))) 0 0 4))) ((t + 2))) 0 0 6))) ((t + 3))) 0 0 8))) ((t + 4)) (va_cpy (((ma_u1 ((ma_u1 ((ma_u1 a ((t + 1)) (va_cpy (a ((l1 + 1))) (a ((t + 1))) 0 0 4))) ((t + 2)) (va_cpy (((ma_u1 a ((t + 1)) (va_cpy (a ((l1 + 1))) (a ((t + 1))) 0 0 4))) ((l1 + 2))) (((ma_u1 a ((t + 1)) (va_cpy (a ((l1 + 1))) (a ((t + 1))) 0 0 4))) ((t + 2))) 0 0 6))) ((t + 3)) (va_cpy (((ma_u1 ((ma_u1 a ((t + 1)) (va_cpy (a ((l1 + 1))) (a ((t + 1))) 0 0 4))) ((t + 2)) (va_cpy (((ma_u1 a ((t + 1)) (va_cpy (a ((l1 + 1))) (a ((t + 1))) 0 0 4))) ((l1 + 2))) (((ma_u1 a ((t + 1)) (va_cpy (a ((l1 + 1))) (a ((t + 1))) 0 0 4))) ((t + 2))) 0 0 6))) ((l1 + 3))) (((ma_u1 ((ma_u1 a ((t + 1)) (va_cpy (a ((l1 + 1))) (a ((t + 1))) 0 0 4))) ((t + 2)) (va_cpy (((ma_u1 a ((t + 1)) (va_cpy (a ((l1 + 1))) (a ((t + 1))) 0 0 4))) ((l1 + 2))) (((ma_u1 a ((t + 1)) (va_cpy (a ((l1 + 1))) (a ((t + 1))) 0 0 4))) ((t + 2))) 0 0 6))) ((t + 3))) 0 0 8))) ((l1 + 4))) (((ma_u1 ((ma_u1 ((ma_u1 a ((t + 1)) (va_cpy (a ((l1 + 1))) (a ((t + 1))) 0 0 4))) ((t + 2)) (va_cpy (((ma_u1 a ((t + 1)) (va_cpy (a ((l1 + 1))) (a ((t + 1))) 0 0 4))) ((l1 + 2))) (((ma_u1 a ((t + 1)) (va_cpy (a ((l1 + 1))) (a ((t + 1))) 0 0 4))) ((t + 2))) 0 0 6))) ((t + 3)) (va_cpy (((ma_u1 ((ma_u1 a ((t + 1)) (va_cpy (a ((l1 + 1))) (a ((t + 1))) 0 0 4))) ((t + 2)) (va_cpy (((ma_u1 a ((t + 1)) (va_cpy (a ((l1 + 1))) (a ((t + 1))) 0 0 4))) ((l1 + 2))) (((ma_u1 a ((t + 1)) (va_cpy (a ((l1 + 1))) (a ((t + 1))) 0 0 4))) ((t + 2))) 0 0 6))) ((l1 + 3))) (((ma_u1 ((ma_u1 a ((t + 1)) (va_cpy (a ((l1 + 1))) (a ((t + 1))) 0 0 4))) ((t + 2)) (va_cpy (((ma_u1 a ((t + 1)) (va_cpy (a ((l1 + 1))) (a ((t + 1))) 0 0 4))) ((l1 + 2))) (((ma_u1 a ((t + 1)) (va_cpy (a ((l1 + 1))) (a ((t + 1))) 0 0 4))) ((t + 2))) 0 0 6))) ((t + 3))) 0 0 8))) ((t + 4))) 0 0 8))) ((l1 + 5))) (((ma_u1 ((ma_u1 ((ma_u1 ((ma_u1 a ((t + 1)) (va_cpy (a ((l1 + 1))) (a ((t + 1))) 0 0 4))) ((t + 2)) (va_cpy (((ma_u1 a ((t + 1)) (va_cpy (a ((l1 + 1))) (a ((t + 1))) 0 0 4))) ((l1 + 2))) (((ma_u1 a ((t + 1)) (va_cpy (a ((l1 + 1))) (a ((t + 1))) 0 0 4))) ((t + 2))) 0 0 6))) ((t + 3)) (va_cpy (((ma_u1 ((ma_u1 a ((t + 1)) (va_cpy (a ((l1 + 1))) (a ((t + 1))) 0 0 4))) ((t + 2)) (va_cpy (((ma_u1 a ((t + 1)) (va_cpy (a ((l1 + 1))) (a ((t + 1))) 0 0 4))) ((l1 + 2))) (((ma_u1 a ((t + 1)) (va_cpy (a ((l1 + 1))) (a ((t + 1))) 0 0 4))) ((t + 2))) 0 0 6))) ((l1 + 3))) (((ma_u1 ((ma_u1 a ((t + 1)) (va_cpy (a ((l1 + 1))) (a ((t + 1))) 0 0 4))) ((t + 2)) (va_cpy (((ma_u1 a ((t + 1)) (va_cpy (a ((l1 + 1))) (a ((t + 1))) 0 0 4))) ((l1 + 2))) (((ma_u1 a ((t + 1)) (va_cpy (a ((l1 + 1))) (a ((t + 1))) 0 0 4))) ((t + 2))) 0 0 6))) ((t + 3))) 0 0 8))) ((t + 4)) (va_cpy (((ma_u1 ((ma_u1 ((ma_u1 a ((t + 1)) (va_cpy (a ((l1 + 1))) (a ((t + 1))) 0 0 4))) ((t + 2)) (va_cpy (((ma_u1 a ((t + 1)) (va_cpy (a ((l1 + 1))) (a ((t + 1))) 0 0 4))) ((l1 + 2))) (((ma_u1 a ((t + 1)) (va_cpy (a ((l1 + 1))) (a ((t + 1))) 0 0 4))) ((t + 2))) 0 0 6))) ((t + 3)) (va_cpy (((ma_u1 ((ma_u1 a ((t + 1)) (va_cpy (a ((l1 + 1))) (a ((t + 1))) 0 0 4))) ((t + 2)) (va_cpy (((ma_u1 a ((t + 1)) (va_cpy (a ((l1 + 1))) (a ((t + 1))) 0 0 4))) ((l1 + 2))) (((ma_u1 a ((t + 1)) (va_cpy (a ((l1 + 1))) (a ((t + 1))) 0 0 4))) ((t + 2))) 0 0 6))) ((l1 + 3))) (((ma_u1 ((ma_u1 a ((t + 1)) (va_cpy (a ((l1 + 1))) (a ((t + 1))) 0 0 4))) ((t + 2)) (va_cpy (((ma_u1 a ((t + 1)) (va_cpy (a ((l1 + 1))) (a ((t + 1))) 0 0 4))) ((l1 + 2))) (((ma_u1 a ((t + 1)) (va_cpy (a ((l1 + 1))) (a ((t + 1))) 0 0 4))) ((t + 2))) 0 0 6))) ((t + 3))) 0 0 8))) ((l1 + 4))) (((ma_u1 ((ma_u1 ((ma_u1 a ((t + 1)) (va_cpy (a ((l1 + 1))) (a ((t + 1))) 0 0 4))) ((t + 2)) (va_cpy (((ma_u1 a ((t + 1)) (va_cpy (a ((l1 + 1))) (a ((t + 1))) 0 0 4))) ((l1 + 2))) (((ma_u1 a ((t + 1)) (va_cpy (a ((l1 + 1))) (a ((t + 1))) 0 0 4))) ((t + 2))) 0 0 6))) ((t + 3)) (va_cpy (((ma_u1 ((ma_u1 a ((t + 1)) (va_cpy (a ((l1 + 1))) (a ((t + 1))) 0 0 4))) ((t + 2)) (va_cpy (((ma_u1 a ((t + 1)) (va_cpy (a ((l1 + 1))) (a ((t + 1))) 0 0 4))) ((l1 + 2))) (((ma_u1 a ((t + 1)) (va_cpy (a ((l1 + 1))) (a ((t + 1))) 0 0 4))) ((t + 2))) 0 0 6))) ((l1 + 3))) (((ma_u1 ((ma_u1 a ((t + 1)) (va_cpy (a ((l1 + 1))) (a ((t + 1))) 0 0 4))) ((t + 2)) (va_cpy (((ma_u1 a ((t + 1)) (va_cpy (a ((l1 + 1))) (a ((t + 1))) 0 0 4))) ((l1 + 2))) (((ma_u1 a ((t + 1)) (va_cpy (a ((l1 + 1))) (a ((t + 1))) 0 0 4))) ((t + 2))) 0 0 6))) ((t + 3))) 0 0 8))) ((t + 4))) 0 0 8))) ((t + 5))) 0 0 8))) ((l1 + 6))) (((ma_u1 ((ma_u1 ((ma_u1 ((ma_u1 ((ma_u1 a ((t + 1)) (va_cpy (a ((l1 + 1))) (a ((t + 1))) 0 0 4))) ((t + 2)) (va_cpy (((ma_u1 a ((t + 1)) (va_cpy (a ((l1 + 1))) (a ((t + 1))) 0 0 4))) ((l1 + 2))) (((ma_u1 a ((t + 1)) (va_cpy (a ((l1 + 1))) (a ((t + 1))) 0 0 4))) ((t + 2))) 0 0 6))) ((t + 3)) (va_cpy (((ma_u1 ((ma_u1 a ((t + 1)) (va_cpy (a ((l1 + 1))) (a ((t + 1))) 0 0 4))) ((t + 2)) (va_cpy (((ma_u1 a ((t + 1)) (va_cpy (a ((l1 + 1))) (a ((t + 1))) 0 0 4))) ((l1 + 2))) (((ma_u1 a ((t + 1)) (va_cpy (a ((l1 + 1))) (a ((t + 1))) 0 0 4))) ((t + 2))) 0 0 6))) ((l1 + 3))) (((ma_u1 ((ma_u1 a ((t + 1)) (va_cpy (a ((l1 + 1))) (a ((t + 1))) 0 0 4))) ((t + 2)) (va_cpy (((ma_u1 a ((t + 1)) (va_cpy (a ((l1 + 1))) (a ((t + 1))) 0 0 4))) ((l1 + 2))) (((ma_u1 a ((t + 1)) (va_cpy (a ((l1 + 1))) (a ((t + 1))) 0 0 4))) ((t + 2))) 0 0 6))) ((t + 3))) 0 0 8))) ((t + 4)) (va_cpy (((ma_u1 ((ma_u1 ((ma_u1 a ((t + 1)) (va_cpy (a ((l1 + 1))) (a ((t + 1))) 0 0 4))) ((t + 2)) (va_cpy (((ma_u1 a ((t + 1)) (va_cpy (a ((l1 + 1))) (a ((t + 1))) 0 0 4))) ((l1 + 2))) (((ma_u1 a ((t + 1)) (va_cpy (a ((l1 + 1))) (a ((t + 1))) 0 0 4))) ((t + 2))) 0 0 6))) ((t + 3)) (va_cpy (((ma_u1 ((ma_u1 a ((t + 1)) (va_cpy (a ((l1 + 1))) (a ((t + 1))) 0 0 4))) ((t + 2)) (va_cpy (((ma_u1 a ((t + 1)) (va_cpy (a ((l1 + 1))) (a ((t + 1))) 0 0 4))) ((l1 + 2))) (((ma_u1 a ((t + 1)) (va_cpy (a ((l1 + 1))) (a ((t + 1))) 0 0 4))) ((t + 2))) 0 0 6))) ((l1 + 3))) (((ma_u1 ((ma_u1 a ((t + 1)) (va_cpy (a ((l1 + 1))) (a ((t + 1))) 0 0 4))) ((t + 2)) (va_cpy (((ma_u1 a ((t + 1)) (va_cpy (a ((l1 + 1))) (a ((t + 1))) 0 0 4))) ((l1 + 2))) (((ma_u1 a ((t + 1)) (va_cpy (a ((l1 + 1))) (a ((t + 1))) 0 0 4))) ((t + 2))) 0 0 6))) ((t + 3))) 0 0 8))) ((l1 + 4))) (((ma_u1 ((ma_u1 ((ma_u1 a ((t + 1)) (va_cpy (a ((l1 + 1))) (a ((t + 1))) 0 0 4))) ((t + 2)) (va_cpy (((ma_u1 a ((t + 1)) (va_cpy (a ((l1 + 1))) (a ((t + 1))) 0 0 4))) ((l1 + 2))) (((ma_u1 a ((t + 1)) (va_cpy (a ((l1 + 1))) (a ((t + 1))) 0 0 4))) ((t + 2))) 0 0 6))) ((t + 3)) (va_cpy (((ma_u1 ((ma_u1 a ((t + 1)) (va_cpy (a ((l1 + 1))) (a ((t + 1))) 0 0 4))) ((t + 2)) (va_cpy (((ma_u1 a ((t + 1)) (va_cpy (a ((l1 + 1))) (a ((t + 1))) 0 0 4))) ((l1 + 2))) (((ma_u1 a ((t + 1)) (va_cpy (a ((l1 + 1))) (a ((t + 1))) 0 0 4))) ((t + 2))) 0 0 6))) ((l1 + 3))) (((ma_u1 ((ma_u1 a ((t + 1)) (va_cpy (a ((l1 + 1))) (a ((t + 1))) 0 0 4))) ((t + 2)) (va_cpy (((ma_u1 a ((t + 1)) (va_cpy (a ((l1 + 1))) (a ((t + 1))) 0 0 4))) ((l1 + 2))) (((ma_u1 a ((t + 1)) (va_cpy (a ((l1 + 1))) (a ((t + 1))) 0 0 4))) ((t + 2))) 0 0 6))) ((t + 3))) 0 0 8))) ((t + 4))) 0 0 8))) ((t + 5)) (va_cpy (((ma_u1 ((ma_u1 ((ma_u1 ((ma_u1 a ((t + 1)) (va_cpy (a ((l1 + 1))) (a ((t + 1))) 0 0 4))) ((t + 2)) (va_cpy (((ma_u1 a ((t + 1)) (va_cpy (a ((l1 + 1))) (a ((t + 1))) 0 0 4))) ((l1 + 2))) (((ma_u1 a ((t + 1)) (va_cpy (a ((l1 + 1))) (a ((t + 1))) 0 0 4))) ((t + 2))) 0 0 6))) ((t + 3)) (va_cpy (((ma_u1 ((ma_u1 a ((t + 1)) (va_cpy (a ((l1 + 1))) (a ((t + 1))) 0 0 4))) ((t + 2)) (va_cpy (((ma_u1 a ((t + 1)) (va_cpy (a ((l1 + 1))) (a ((t + 1))) 0 0 4))) ((l1 + 2))) (((ma_u1 a ((t + 1)) (va_cpy (a ((l1 + 1))) (a ((t + 1))) 0 0 4))) ((t + 2))) 0 0 6))) ((l1 + 3))) (((ma_u1 ((ma_u1 a ((t + 1)) (va_cpy (a ((l1 + 1))) (a ((t + 1))) 0 0 4))) ((t + 2)) (va_cpy (((ma_u1 a ((t + 1)) (va_cpy (a ((l1 + 1))) (a ((t + 1))) 0 0 4))) ((l1 + 2))) (((ma_u1 a ((t + 1)) (va_cpy (a ((l1 + 1))) (a ((t + 1))) 0 0 4))) ((t + 2))) 0 0 6))) ((t + 3))) 0 0 8))) ((t + 4)) (va_cpy (((ma_u1 ((ma_u1 ((ma_u1 a ((t + 1)) (va_cpy (a ((l1 + 1))) (a ((t + 1))) 0 0 4))) ((t + 2)) (va_cpy (((ma_u1 a ((t + 1)) (va_cpy (a ((l1 + 1))) (a ((t + 1))) 0 0 4))) ((l1 + 2))) (((ma_u1 a ((t + 1)) (va_cpy (a ((l1 + 1))) (a ((t + 1))) 0 0 4))) ((t + 2))) 0 0 6))) ((t + 3)) (va_cpy (((ma_u1 ((ma_u1 a ((t + 1)) (va_cpy (a ((l1 + 1))) (a ((t + 1))) 0 0 4))) ((t + 2)) (va_cpy (((ma_u1 a ((t + 1)) (va_cpy (a ((l1 + 1))) (a ((t + 1))) 0 0 4))) ((l1 + 2))) (((ma_u1 a ((t + 1)) (va_cpy (a ((l1 + 1))) (a ((t + 1))) 0 0 4))) ((t + 2))) 0 0 6))) ((l1 + 3))) (((ma_u1 ((ma_u1 a ((t + 1)) (va_cpy (a ((l1 + 1))) (a ((t + 1))) 0 0 4))) ((t + 2)) (va_cpy (((ma_u1 a ((t + 1)) (va_cpy (a ((l1 + 1))) (a ((t + 1))) 0 0 4))) ((l1 + 2))) (((ma_u1 a ((t + 1)) (va_cpy (a ((l1 + 1))) (a ((t + 1))) 0 0 4))) ((t + 2))) 0 0 6))) ((t + 3))) 0 0 8))) ((l1 + 4))) (((ma_u1 ((ma_u1 ((ma_u1 a ((t + 1)) (va_cpy (a ((l1 + 1))) (a ((t + 1))) 0 0 4))) ((t + 2)) (va_cpy (((ma_u1 a ((t + 1)) (va_cpy (a ((l1 + 1))) (a ((t + 1))) 0 0 4))) ((l1 + 2))) (((ma_u1 a ((t + 1)) (va_cpy (a ((l1 + 1))) (a ((t + 1))) 0 0 4))) ((t + 2))) 0 0 6))) ((t + 3)) (va_cpy (((ma_u1 ((ma_u1 a ((t + 1)) (va_cpy (a ((l1 + 1))) (a ((t + 1))) 0 0 4))) ((t + 2)) (va_cpy (((ma_u1 a ((t + 1)) (va_cpy (a ((l1 + 1))) (a ((t + 1))) 0 0 4))) ((l1 + 2))) (((ma_u1 a ((t + 1)) (va_cpy (a ((l1 + 1))) (a ((t + 1))) 0 0 4))) ((t + 2))) 0 0 6))) ((l1 + 3))) (((ma_u1 ((ma_u1 a ((t + 1)) (va_cpy (a ((l1 + 1))) (a ((t + 1))) 0 0 4))) ((t + 2)) (va_cpy (((ma_u1 a ((t + 1)) (va_cpy (a ((l1 + 1))) (a ((t + 1))) 0 0 4))) ((l1 + 2))) (((ma_u1 a ((t + 1)) (va_cpy (a ((l1 + 1))) (a ((t + 1))) 0 0 4))) ((t + 2))) 0 0 6))) ((t + 3))) 0 0 8))) ((t + 4))) 0 0 8))) ((l1 + 5))) (((ma_u1 ((ma_u1 ((ma_u1 ((ma_u1 a ((t + 1)) (va_cpy (a ((l1 + 1))) (a ((t + 1))) 0 0 4))) ((t + 2)) (va_cpy (((ma_u1 a ((t + 1)) (va_cpy (a ((l1 + 1))) (a ((t + 1))) 0 0 4))) ((l1 + 2))) (((ma_u1 a ((t + 1)) (va_cpy (a ((l1 + 1))) (a ((t + 1))) 0 0 4))) ((t + 2))) 0 0 6))) ((t + 3)) (va_cpy (((ma_u1 ((ma_u1 a ((t + 1)) (va_cpy (a ((l1 + 1))) (a ((t + 1))) 0 0 4))) ((t + 2)) (va_cpy (((ma_u1 a ((t + 1)) (va_cpy (a ((l1 + 1))) (a ((t + 1))) 0 0 4))) ((l1 + 2))) (((ma_u1 a ((t + 1)) (va_cpy (a ((l1 + 1))) (a ((t + 1))) 0 0 4))) ((t + 2))) 0 0 6))) ((l1 + 3))) (((ma_u1 ((ma_u1 a ((t + 1)) (va_cpy (a ((l1 + 1))) (a ((t + 1))) 0 0 4))) ((t + 2)) (va_cpy (((ma_u1 a ((t + 1)) (va_cpy (a ((l1 + 1))) (a ((t + 1))) 0 0 4))) ((l1 + 2))) (((ma_u1 a ((t + 1)) (va_cpy (a ((l1 + 1))) (a ((t + 1))) 0 0 4))) ((t + 2))) 0 0 6))) ((t + 3))) 0 0 8))) ((t + 4)) (va_cpy (((ma_u1 ((ma_u1 ((ma_u1 a ((t + 1)) (va_cpy (a ((l1 + 1))) (a ((t + 1))) 0 0 4))) ((t + 2)) (va_cpy (((ma_u1 a ((t + 1)) (va_cpy (a ((l1 + 1))) (a ((t + 1))) 0 0 4))) ((l1 + 2))) (((ma_u1 a ((t + 1)) (va_cpy (a ((l1 + 1))) (a ((t + 1))) 0 0 4))) ((t + 2))) 0 0 6))) ((t + 3)) (va_cpy (((ma_u1 ((ma_u1 a ((t + 1)) (va_cpy (a ((l1 + 1))) (a ((t + 1))) 0 0 4))) ((t + 2)) (va_cpy (((ma_u1 a ((t + 1)) (va_cpy (a ((l1 + 1))) (a ((t + 1))) 0 0 4))) ((l1 + 2))) (((ma_u1 a ((t + 1)) (va_cpy (a ((l1 + 1))) (a ((t + 1))) 0 0 4))) ((t + 2))) 0 0 6))) ((l1 + 3))) (((ma_u1 ((ma_u1 a ((t + 1)) (va_cpy (a ((l1 + 1))) (a ((t + 1))) 0 0 4))) ((t + 2)) (va_cpy (((ma_u1 a ((t + 1)) (va_cpy (a ((l1 + 1))) (a ((t + 1))) 0 0 4))) ((l1 + 2))) (((ma_u1 a ((t + 1)) (va_cpy (a ((l1 + 1))) (a ((t + 1))) 0 0 4))) ((t + 2))) 0 0 6))) ((t + 3))) 0 0 8))) ((l1 + 4))) (((ma_u1 ((ma_u1 ((ma_u1 a ((t + 1)) (va_cpy (a ((l1 + 1))) (a ((t + 1))) 0 0 4))) ((t + 2)) (va_cpy (((ma_u1 a ((t + 1)) (va_cpy (a ((l1 + 1))) (a ((t + 1))) 0 0 4))) ((l1 + 2))) (((ma_u1 a ((t + 1)) (va_cpy (a ((l1 + 1))) (a ((t + 1))) 0 0 4))) ((t + 2))) 0 0 6))) ((t + 3)) (va_cpy (((ma_u1 ((ma_u1 a ((t + 1)) (va_cpy (a ((l1 + 1))) (a ((t + 1))) 0 0 4))) ((t + 2)) (va_cpy (((ma_u1 a ((t + 1)) (va_cpy (a ((l1 + 1))) (a ((t + 1))) 0 0 4))) ((l1 + 2))) (((ma_u1 a ((t + 1)) (va_cpy (a ((l1 + 1))) (a ((t + 1))) 0 0 4))) ((t + 2))) 0 0 6))) ((l1 + 3))) (((ma_u1 ((ma_u1 a ((t + 1)) (va_cpy (a ((l1 + 1))) (a ((t + 1))) 0 0 4))) ((t + 2)) (va_cpy (((ma_u1 a ((t + 1)) (va_cpy (a ((l1 + 1))) (a ((t + 1))) 0 0 4))) ((l1 + 2))) (((ma_u1 a ((t + 1)) (va_cpy (a ((l1 + 1))) (a ((t + 1))) 0 0 4))) ((t + 2))) 0 0 6))) ((t + 3))) 0 0 8))) ((t + 4))) 0 0 8))) ((t + 5))) 0 0 8))) ((t + 6))) 0 0 8))) ((t + 7)) (va_cpy (((ma_u1 ((ma_u1 ((ma_u1 ((ma_u1 ((ma_u1 ((ma_u1 a ((t + 1)) (va_cpy (a ((l1 + 1))) (a ((t + 1))) 0 0 4))) ((t + 2)) (va_cpy (((ma_u1 a ((t + 1)) (va_cpy (a ((l1 + 1))) (a ((t + 1))) 0 0 4))) ((l1 + 2))) (((ma_u1 a ((t + 1)) (va_cpy (a ((l1 + 1))) (a ((t + 1))) 0 0 4))) ((t + 2))) 0 0 6))) ((t + 3)) (va_cpy (((ma_u1 ((ma_u1 a ((t + 1)) (va_cpy (a ((l1 + 1))) (a ((t + 1))) 0 0 4))) ((t + 2)) (va_cpy (((ma_u1 a ((t + 1)) (va_cpy (a ((l1 + 1))) (a ((t + 1))) 0 0 4))) ((l1 + 2))) (((ma_u1 a ((t + 1)) (va_cpy (a ((l1 + 1))) (a ((t + 1))) 0 0 4))) ((t + 2))) 0 0 6))) ((l1 + 3))) (((ma_u1 ((ma_u1 a ((t + 1)) (va_cpy (a ((l1 + 1))) (a ((t + 1))) 0 0 4))) ((t + 2)) (va_cpy (((ma_u1 a ((t + 1)) (va_cpy (a ((l1 + 1))) (a ((t + 1))) 0 0 4))) ((l1 + 2))) (((ma_u1 a ((t + 1)) (va_cpy (a ((l1 + 1))) (a ((t + 1))) 0 0 4))) ((t + 2))) 0 0 6))) ((t + 3))) 0 0 8))) ((t + 4)) (va_cpy (((ma_u1 ((ma_u1 ((ma_u1 a ((t + 1)) (va_cpy (a ((l1 + 1))) (a ((t + 1))) 0 0 4))) ((t + 2)) (va_cpy (((ma_u1 a ((t + 1)) (va_cpy (a ((l1 + 1))) (a ((t + 1))) 0 0 4))) ((l1 + 2))) (((ma_u1 a ((t + 1)) (va_cpy (a ((l1 + 1))) (a ((t + 1))) 0 0 4))) ((t + 2))) 0 0 6))) ((t + 3)) (va_cpy (((ma_u1 ((ma_u1 a ((t + 1)) (va_cpy (a ((l1 + 1))) (a ((t + 1))) 0 0 4))) ((t + 2)) (va_cpy (((ma_u1 a ((t + 1)) (va_cpy (a ((l1 + 1))) (a ((t + 1))) 0 0 4))) ((l1 + 2))) (((ma_u1 a ((t + 1)) (va_cpy (a ((l1 + 1))) (a ((t + 1))) 0 0 4))) ((t + 2))) 0 0 6))) ((l1 + 3))) (((ma_u1 ((ma_u1 a ((t + 1)) (va_cpy (a ((l1 + 1))) (a ((t + 1))) 0 0 4))) ((t + 2)) (va_cpy (((ma_u1 a ((t + 1)) (va_cpy (a ((l1 + 1))) (a ((t + 1))) 0 0 4))) ((l1 + 2))) (((ma_u1 a ((t + 1)) (va_cpy (a ((l1 + 1))) (a ((t + 1))) 0 0 4))) ((t + 2))) 0 0 6))) ((t + 3))) 0 0 8))) ((l1 + 4))) (((ma_u1 ((ma_u1 ((ma_u1 a ((t + 1)) (va_cpy (a ((l1 + 1))) (a ((t + 1))) 0 0 4))) ((t + 2)) (va_cpy (((ma_u1 a ((t + 1)) (va_cpy (a ((l1 + 1))) (a ((t + 1))) 0 0 4))) ((l1 + 2))) (((ma_u1 a ((t + 1)) (va_cpy (a ((l1 + 1))) (a ((t + 1))) 0 0 4))) ((t + 2))) 0 0 6))) ((t + 3)) (va_cpy (((ma_u1 ((ma_u1 a ((t + 1)) (va_cpy (a ((l1 + 1))) (a ((t + 1))) 0 0 4))) ((t + 2)) (va_cpy (((ma_u1 a ((t + 1)) (va_cpy (a ((l1 + 1))) (a ((t + 1))) 0 0 4))) ((l1 + 2))) (((ma_u1 a ((t + 1)) (va_cpy (a ((l1 + 1))) (a ((t + 1))) 0 0 4))) ((t + 2))) 0 0 6))) ((l1 + 3))) (((ma_u1 ((ma_u1 a ((t + 1)) (va_cpy (a ((l1 + 1))) (a ((t + 1))) 0 0 4))) ((t + 2)) (va_cpy (((ma_u1 a ((t + 1)) (va_cpy (a ((l1 + 1))) (a ((t + 1))) 0 0 4))) ((l1 + 2))) (((ma_u1 a ((t + 1)) (va_cpy (a ((l1 + 1))) (a ((t + 1))) 0 0 4))) ((t + 2))) 0 0 6))) ((t + 3))) 0 0 8))) ((t + 4))) 0 0 8))) ((t + 5)) (va_cpy (((ma_u1 ((ma_u1 ((ma_u1 ((ma_u1 a ((t + 1)) (va_cpy (a ((l1 + 1))) (a ((t + 1))) 0 0 4))) ((t + 2)) (va_cpy (((ma_u1 a ((t + 1)) (va_cpy (a ((l1 + 1))) (a ((t + 1))) 0 0 4))) ((l1 + 2))) (((ma_u1 a ((t + 1)) (va_cpy (a ((l1 + 1))) (a ((t + 1))) 0 0 4))) ((t + 2))) 0 0 6))) ((t + 3)) (va_cpy (((ma_u1 ((ma_u1 a ((t + 1)) (va_cpy (a ((l1 + 1))) (a ((t + 1))) 0 0 4))) ((t + 2)) (va_cpy (((ma_u1 a ((t + 1)) (va_cpy (a ((l1 + 1))) (a ((t + 1))) 0 0 4))) ((l1 + 2))) (((ma_u1 a ((t + 1)) (va_cpy (a ((l1 + 1))) (a ((t + 1))) 0 0 4))) ((t + 2))) 0 0 6))) ((l1 + 3))) (((ma_u1 ((ma_u1 a ((t + 1)) (va_cpy (a ((l1 + 1))) (a ((t + 1))) 0 0 4))) ((t + 2)) (va_cpy (((ma_u1 a ((t + 1)) (va_cpy (a ((l1 + 1))) (a ((t + 1))) 0 0 4))) ((l1 + 2))) (((ma_u1 a ((t + 1)) (va_cpy (a ((l1 + 1))) (a ((t + 1))) 0 0 4))) ((t + 2))) 0 0 6))) ((t + 3))) 0 0 8))) ((t + 4)) (va_cpy (((ma_u1 ((ma_u1 ((ma_u1 a ((t + 1)) (va_cpy (a ((l1 + 1))) (a ((t + 1))) 0 0 4))) ((t + 2)) (va_cpy (((ma_u1 a ((t + 1)) (va_cpy (a ((l1 + 1))) (a ((t + 1))) 0 0 4))) ((l1 + 2))) (((ma_u1 a ((t + 1)) (va_cpy (a ((l1 + 1))) (a ((t + 1))) 0 0 4))) ((t + 2))) 0 0 6))) ((t + 3)) (va_cpy (((ma_u1 ((ma_u1 a ((t + 1)) (va_cpy (a ((l1 + 1))) (a ((t + 1))) 0 0 4))) ((t + 2)) (va_cpy (((ma_u1 a ((t + 1)) (va_cpy (a ((l1 + 1))) (a ((t + 1))) 0 0 4))) ((l1 + 2))) (((ma_u1 a ((t + 1)) (va_cpy (a ((l1 + 1))) (a ((t + 1))) 0 0 4))) ((t + 2))) 0 0 6))) ((l1 + 3))) (((ma_u1 ((ma_u1 a ((t + 1)) (va_cpy (a ((l1 + 1))) (a ((t + 1))) 0 0 4))) ((t + 2)) (va_cpy (((ma_u1 a ((t + 1)) (va_cpy (a ((l1 + 1))) (a ((t + 1))) 0 0 4))) ((l1 + 2))) (((ma_u1 a ((t + 1)) (va_cpy (a ((l1 + 1))) (a ((t + 1))) 0 0 4))) ((t + 2))) 0 0 6))) ((t + 3))) 0 0 8))) ((l1 + 4))) (((ma_u1 ((ma_u1 ((ma_u1 a ((t + 1)) (va_cpy (a ((l1 + 1))) (a ((t + 1))) 0 0 4))) ((t + 2)) (va_cpy (((ma_u1 a ((t + 1)) (va_cpy (a ((l1 + 1))) (a ((t + 1))) 0 0 4))) ((l1 + 2))) (((ma_u1 a ((t + 1)) (va_cpy (a ((l1 + 1))) (a ((t + 1))) 0 0 4))) ((t + 2))) 0 0 6))) ((t + 3)) (va_cpy (((ma_u1 ((ma_u1 a ((t + 1)) (va_cpy (a ((l1 + 1))) (a ((t + 1))) 0 0 4))) ((t + 2)) (va_cpy (((ma_u1 a ((t + 1)) (va_cpy (a ((l1 + 1))) (a ((t + 1))) 0 0 4))) ((l1 + 2))) (((ma_u1 a ((t + 1)) (va_cpy (a ((l1 + 1))) (a ((t + 1))) 0 0 4))) ((t + 2))) 0 0 6))) ((l1 + 3))) (((ma_u1 ((ma_u1 a ((t + 1)) (va_cpy (a ((l1 + 1))) (a ((t + 1))) 0 0 4))) ((t + 2)) (va_cpy (((ma_u1 a ((t + 1)) (va_cpy (a ((l1 + 1))) (a ((t + 1))) 0 0 4))) ((l1 + 2))) (((ma_u1 a ((t + 1)) (va_cpy (a ((l1 + 1))) (a ((t + 1))) 0 0 4))) ((t + 2))) 0 0 6))) ((t + 3))) 0 0 8))) ((t + 4))) 0 0 8))) ((l1 + 5))) (((ma_u1 ((ma_u1 ((ma_u1 ((ma_u1 a ((t + 1)) (va_cpy (a ((l1 + 1))) (a ((t + 1))) 0 0 4))) ((t + 2)) (va_cpy (((ma_u1 a ((t + 1)) (va_cpy (a ((l1 + 1))) (a ((t + 1))) 0 0 4))) ((l1 + 2))) (((ma_u1 a ((t + 1)) (va_cpy (a ((l1 + 1))) (a ((t + 1))) 0 0 4))) ((t + 2))) 0 0 6))) ((t + 3)) (va_cpy (((ma_u1 ((ma_u1 a ((t + 1)) (va_cpy (a ((l1 + 1))) (a ((t + 1))) 0 0 4))) ((t + 2)) (va_cpy (((ma_u1 a ((t + 1)) (va_cpy (a ((l1 + 1))) (a ((t + 1))) 0 0 4))) ((l1 + 2))) (((ma_u1 a ((t + 1)) (va_cpy (a ((l1 + 1))) (a ((t + 1))) 0 0 4))) ((t + 2))) 0 0 6))) ((l1 + 3))) (((ma_u1 ((ma_u1 a ((t + 1)) (va_cpy (a ((l1 + 1))) (a ((t + 1))) 0 0 4))) ((t + 2)) (va_cpy (((ma_u1 a ((t + 1)) (va_cpy (a ((l1 + 1))) (a ((t + 1))) 0 0 4))) ((l1 + 2))) (((ma_u1 a ((t + 1)) (va_cpy (a ((l1 + 1))) (a ((t + 1))) 0 0 4))) ((t + 2))) 0 0 6))) ((t + 3))) 0 0 8))) ((t + 4)) (va_cpy (((ma_u1 ((ma_u1 ((ma_u1 a ((t + 1)) (va_cpy (a ((l1 + 1))) (a ((t + 1))) 0 0 4))) ((t + 2)) (va_cpy (((ma_u1 a ((t + 1)) (va_cpy (a ((l1 + 1))) (a ((t + 1))) 0 0 4))) ((l1 + 2))) (((ma_u1 a ((t + 1)) (va_cpy (a ((l1 + 1))) (a ((t + 1))) 0 0 4))) ((t + 2))) 0 0 6))) ((t + 3)) (va_cpy (((ma_u1 ((ma_u1 a ((t + 1)) (va_cpy (a ((l1 + 1))) (a ((t + 1))) 0 0 4))) ((t + 2)) (va_cpy (((ma_u1 a ((t + 1)) (va_cpy (a ((l1 + 1))) (a ((t + 1))) 0 0 4))) ((l1 + 2))) (((ma_u1 a ((t + 1)) (va_cpy (a ((l1 + 1))) (a ((t + 1))) 0 0 4))) ((t + 2))) 0 0 6))) ((l1 + 3))) (((ma_u1 ((ma_u1 a ((t + 1)) (va_cpy (a ((l1 + 1))) (a ((t + 1))) 0 0 4))) ((t + 2)) (va_cpy (((ma_u1 a ((t + 1)) (va_cpy (a ((l1 + 1))) (a ((t + 1))) 0 0 4))) ((l1 + 2))) (((ma_u1 a ((t + 1)) (va_cpy (a ((l1 + 1))) (a ((t + 1))) 0 0 4))) ((t + 2))) 0 0 6))) ((t + 3))) 0 0 8))) ((l1 + 4))) (((ma_u1 ((ma_u1 ((ma_u1 a ((t + 1)) (va_cpy (a ((l1 + 1))) (a ((t + 1))) 0 0 4))) ((t + 2)) (va_cpy (((ma_u1 a ((t + 1)) (va_cpy (a ((l1 + 1))) (a ((t + 1))) 0 0 4))) ((l1 + 2))) (((ma_u1 a ((t + 1)) (va_cpy (a ((l1 + 1))) (a ((t + 1))) 0 0 4))) ((t + 2))) 0 0 6))) ((t + 3)) (va_cpy (((ma_u1 ((ma_u1 a ((t + 1)) (va_cpy (a ((l1 + 1))) (a ((t + 1))) 0 0 4))) ((t + 2)) (va_cpy (((ma_u1 a ((t + 1)) (va_cpy (a ((l1 + 1))) (a ((t + 1))) 0 0 4))) ((l1 + 2))) (((ma_u1 a ((t + 1)) (va_cpy (a ((l1 + 1))) (a ((t + 1))) 0 0 4))) ((t + 2))) 0 0 6))) ((l1 + 3))) (((ma_u1 ((ma_u1 a ((t + 1)) (va_cpy (a ((l1 + 1))) (a ((t + 1))) 0 0 4))) ((t + 2)) (va_cpy (((ma_u1 a ((t + 1)) (va_cpy (a ((l1 + 1))) (a ((t + 1))) 0 0 4))) ((l1 + 2))) (((ma_u1 a ((t + 1)) (va_cpy (a ((l1 + 1))) (a ((t + 1))) 0 0 4))) ((t + 2))) 0 0 6))) ((t + 3))) 0 0 8))) ((t + 4))) 0 0 8))) ((t + 5))) 0 0 8))) ((t + 6)) (va_cpy (((ma_u1 ((ma_u1 ((ma_u1 ((ma_u1 ((ma_u1 a ((t + 1)) (va_cpy (a ((l1 + 1))) (a ((t + 1))) 0 0 4))) ((t + 2)) (va_cpy (((ma_u1 a ((t + 1)) (va_cpy (a ((l1 + 1))) (a ((t + 1))) 0 0 4))) ((l1 + 2))) (((ma_u1 a ((t + 1)) (va_cpy (a ((l1 + 1))) (a ((t + 1))) 0 0 4))) ((t + 2))) 0 0 6))) ((t + 3)) (va_cpy (((ma_u1 ((ma_u1 a ((t + 1)) (va_cpy (a ((l1 + 1))) (a ((t + 1))) 0 0 4))) ((t + 2)) (va_cpy (((ma_u1 a ((t + 1)) (va_cpy (a ((l1 + 1))) (a ((t + 1))) 0 0 4))) ((l1 + 2))) (((ma_u1 a ((t + 1)) (va_cpy (a ((l1 + 1))) (a ((t + 1))) 0 0 4))) ((t + 2))) 0 0 6))) ((l1 + 3))) (((ma_u1 ((ma_u1 a ((t + 1)) (va_cpy (a ((l1 + 1))) (a ((t + 1))) 0 0 4))) ((t + 2)) (va_cpy (((ma_u1 a ((t + 1)) (va_cpy (a ((l1 + 1))) (a ((t + 1))) 0 0 4))) ((l1 + 2))) (((ma_u1 a ((t + 1)) (va_cpy (a ((l1 + 1))) (a ((t + 1))) 0 0 4))) ((t + 2))) 0 0 6))) ((t + 3))) 0 0 8))) ((t + 4)) (va_cpy (((ma_u1 ((ma_u1 ((ma_u1 a ((t + 1)) (va_cpy (a ((l1 + 1))) (a ((t + 1))) 0 0 4))) ((t + 2)) (va_cpy (((ma_u1 a ((t + 1)) (va_cpy (a ((l1 + 1))) (a ((t + 1))) 0 0 4))) ((l1 + 2))) (((ma_u1 a ((t + 1)) (va_cpy (a ((l1 + 1))) (a ((t + 1))) 0 0 4))) ((t + 2))) 0 0 6))) ((t + 3)) (va_cpy (((ma_u1 ((ma_u1 a ((t + 1)) (va_cpy (a ((l1 + 1))) (a ((t + 1))) 0 0 4))) ((t + 2)) (va_cpy (((ma_u1 a ((t + 1)) (va_cpy (a ((l1 + 1))) (a ((t + 1))) 0 0 4))) ((l1 + 2))) (((ma_u1 a ((t + 1)) (va_cpy (a ((l1 + 1))) (a ((t + 1))) 0 0 4))) ((t + 2))) 0 0 6))) ((l1 + 3))) (((ma_u1 ((ma_u1 a ((t + 1)) (va_cpy (a ((l1 + 1))) (a ((t + 1))) 0 0 4))) ((t + 2)) (va_cpy (((ma_u1 a ((t + 1)) (va_cpy (a ((l1 + 1))) (a ((t + 1))) 0 0 4))) ((l1 + 2))) (((ma_u1 a ((t + 1)) (va_cpy (a ((l1 + 1))) (a ((t + 1))) 0 0 4))) ((t + 2))) 0 0 6))) ((t + 3))) 0 0 8))) ((l1 + 4))) (((ma_u1 ((ma_u1 ((ma_u1 a ((t + 1)) (va_cpy (a ((l1 + 1))) (a ((t + 1))) 0 0 4))) ((t + 2)) (va_cpy (((ma_u1 a ((t + 1)) (va_cpy (a ((l1 + 1))) (a ((t + 1))) 0 0 4))) ((l1 + 2))) (((ma_u1 a ((t + 1)) (va_cpy (a ((l1 + 1))) (a ((t + 1))) 0 0 4))) ((t + 2))) 0 0 6))) ((t + 3)) (va_cpy (((ma_u1 ((ma_u1 a ((t + 1)) (va_cpy (a ((l1 + 1))) (a ((t + 1))) 0 0 4))) ((t + 2)) (va_cpy (((ma_u1 a ((t + 1)) (va_cpy (a ((l1 + 1))) (a ((t + 1))) 0 0 4))) ((l1 + 2))) (((ma_u1 a ((t + 1)) (va_cpy (a ((l1 + 1))) (a ((t + 1))) 0 0 4))) ((t + 2))) 0 0 6))) ((l1 + 3))) (((ma_u1 ((ma_u1 a ((t + 1)) (va_cpy (a ((l1 + 1))) (a ((t + 1))) 0 0 4))) ((t + 2)) (va_cpy (((ma_u1 a ((t + 1)) (va_cpy (a ((l1 + 1))) (a ((t + 1))) 0 0 4))) ((l1 + 2))) (((ma_u1 a ((t + 1)) (va_cpy (a ((l1 + 1))) (a ((t + 1))) 0 0 4))) ((t + 2))) 0 0 6))) ((t + 3))) 0 0 8))) ((t + 4))) 0 0 8))) ((t + 5)) (va_cpy (((ma_u1 ((ma_u1 ((ma_u1 ((ma_u1 a ((t + 1)) (va_cpy (a ((l1 + 1))) (a ((t + 1))) 0 0 4))) ((t + 2)) (va_cpy (((ma_u1 a ((t + 1)) (va_cpy (a ((l1 + 1))) (a ((t + 1))) 0 0 4))) ((l1 + 2))) (((ma_u1 a ((t + 1)) (va_cpy (a ((l1 + 1))) (a ((t + 1))) 0 0 4))) ((t + 2))) 0 0 6))) ((t + 3)) (va_cpy (((ma_u1 ((ma_u1 a ((t + 1)) (va_cpy (a ((l1 + 1))) (a ((t + 1))) 0 0 4))) ((t + 2)) (va_cpy (((ma_u1 a ((t + 1)) (va_cpy (a ((l1 + 1))) (a ((t + 1))) 0 0 4))) ((l1 + 2))) (((ma_u1 a ((t + 1)) (va_cpy (a ((l1 + 1))) (a ((t + 1))) 0 0 4))) ((t + 2))) 0 0 6))) ((l1 + 3))) (((ma_u1 ((ma_u1 a ((t + 1)) (va_cpy (a ((l1 + 1))) (a ((t + 1))) 0 0 4))) ((t + 2)) (va_cpy (((ma_u1 a ((t + 1)) (va_cpy (a ((l1 + 1))) (a ((t + 1))) 0 0 4))) ((l1 + 2))) (((ma_u1 a ((t + 1)) (va_cpy (a ((l1 + 1))) (a ((t + 1))) 0 0 4))) ((t + 2))) 0 0 6))) ((t + 3))) 0 0 8))) ((t + 4)) (va_cpy (((ma_u1 ((ma_u1 ((ma_u1 a ((t + 1)) (va_cpy (a ((l1 + 1))) (a ((t + 1))) 0 0 4))) ((t + 2)) (va_cpy (((ma_u1 a ((t + 1)) (va_cpy (a ((l1 + 1))) (a ((t + 1))) 0 0 4))) ((l1 + 2))) (((ma_u1 a ((t + 1)) (va_cpy (a ((l1 + 1))) (a ((t + 1))) 0 0 4))) ((t + 2))) 0 0 6))) ((t + 3)) (va_cpy (((ma_u1 ((ma_u1 a ((t + 1)) (va_cpy (a ((l1 + 1))) (a ((t + 1))) 0 0 4))) ((t + 2)) (va_cpy (((ma_u1 a ((t + 1)) (va_cpy (a ((l1 + 1))) (a ((t + 1))) 0 0 4))) ((l1 + 2))) (((ma_u1 a ((t + 1)) (va_cpy (a ((l1 + 1))) (a ((t + 1))) 0 0 4))) ((t + 2))) 0 0 6))) ((l1 + 3))) (((ma_u1 ((ma_u1 a ((t + 1)) (va_cpy (a ((l1 + 1))) (a ((t + 1))) 0 0 4))) ((t + 2)) (va_cpy (((ma_u1 a ((t + 1)) (va_cpy (a ((l1 + 1))) (a ((t + 1))) 0 0 4))) ((l1 + 2))) (((ma_u1 a ((t + 1)) (va_cpy (a ((l1 + 1))) (a ((t + 1))) 0 0 4))) ((t + 2))) 0 0 6))) ((t + 3))) 0 0 8))) ((l1 + 4))) (((ma_u1 ((ma_u1 ((ma_u1 a ((t + 1)) (va_cpy (a ((l1 + 1))) (a ((t + 1))) 0 0 4))) ((t + 2)) (va_cpy (((ma_u1 a ((t + 1)) (va_cpy (a ((l1 + 1))) (a ((t + 1))) 0 0 4))) ((l1 + 2))) (((ma_u1 a ((t + 1)) (va_cpy (a ((l1 + 1))) (a ((t + 1))) 0 0 4))) ((t + 2))) 0 0 6))) ((t + 3)) (va_cpy (((ma_u1 ((ma_u1 a ((t + 1)) (va_cpy (a ((l1 + 1))) (a ((t + 1))) 0 0 4))) ((t + 2)) (va_cpy (((ma_u1 a ((t + 1)) (va_cpy (a ((l1 + 1))) (a ((t + 1))) 0 0 4))) ((l1 + 2))) (((ma_u1 a ((t + 1)) (va_cpy (a ((l1 + 1))) (a ((t + 1))) 0 0 4))) ((t + 2))) 0 0 6))) ((l1 + 3))) (((ma_u1 ((ma_u1 a ((t + 1)) (va_cpy (a ((l1 + 1))) (a ((t + 1))) 0 0 4))) ((t + 2)) (va_cpy (((ma_u1 a ((t + 1)) (va_cpy (a ((l1 + 1))) (a ((t + 1))) 0 0 4))) ((l1 + 2))) (((ma_u1 a ((t + 1)) (va_cpy (a ((l1 + 1))) (a ((t + 1))) 0 0 4))) ((t + 2))) 0 0 6))) ((t + 3))) 0 0 8))) ((t + 4))) 0 0 8))) ((l1 + 5))) (((ma_u1 ((ma_u1 ((ma_u1 ((ma_u1 a ((t + 1)) (va_cpy (a ((l1 + 1))) (a ((t + 1))) 0 0 4))) ((t + 2)) (va_cpy (((ma_u1 a ((t + 1)) (va_cpy (a ((l1 + 1))) (a ((t + 1))) 0 0 4))) ((l1 + 2))) (((ma_u1 a ((t + 1)) (va_cpy (a ((l1 + 1))) (a ((t + 1))) 0 0 4))) ((t + 2))) 0 0 6))) ((t + 3)) (va_cpy (((ma_u1 ((ma_u1 a ((t + 1)) (va_cpy (a ((l1 + 1))) (a ((t + 1))) 0 0 4))) ((t + 2)) (va_cpy (((ma_u1 a ((t + 1)) (va_cpy (a ((l1 + 1))) (a ((t + 1))) 0 0 4))) ((l1 + 2))) (((ma_u1 a ((t + 1)) (va_cpy (a ((l1 + 1))) (a ((t + 1))) 0 0 4))) ((t + 2))) 0 0 6))) ((l1 + 3))) (((ma_u1 ((ma_u1 a ((t + 1)) (va_cpy (a ((l1 + 1))) (a ((t + 1))) 0 0 4))) ((t + 2)) (va_cpy (((ma_u1 a ((t + 1)) (va_cpy (a ((l1 + 1))) (a ((t + 1))) 0 0 4))) ((l1 + 2))) (((ma_u1 a ((t + 1)) (va_cpy (a ((l1 + 1))) (a ((t + 1))) 0 0 4))) ((t + 2))) 0 0 6))) ((t + 3))) 0 0 8))) ((t + 4)) (va_cpy (((ma_u1 ((ma_u1 ((ma_u1 a ((t + 1)) (va_cpy (a ((l1 + 1))) (a ((t + 1))) 0 0 4))) ((t + 2)) (va_cpy (((ma_u1 a ((t + 1)) (va_cpy (a ((l1 + 1))) (a ((t + 1))) 0 0 4))) ((l1 + 2))) (((ma_u1 a ((t + 1)) (va_cpy (a ((l1 + 1))) (a ((t + 1))) 0 0 4))) ((t + 2))) 0 0 6))) ((t + 3)) (va_cpy (((ma_u1 ((ma_u1 a ((t + 1)) (va_cpy (a ((l1 + 1))) (a ((t + 1))) 0 0 4))) ((t + 2)) (va_cpy (((ma_u1 a ((t + 1)) (va_cpy (a ((l1 + 1))) (a ((t + 1))) 0 0 4))) ((l1 + 2))) (((ma_u1 a ((t + 1)) (va_cpy (a ((l1 + 1))) (a ((t + 1))) 0 0 4))) ((t + 2))) 0 0 6))) ((l1 + 3))) (((ma_u1 ((ma_u1 a ((t + 1)) (va_cpy (a ((l1 + 1))) (a ((t + 1))) 0 0 4))) ((t + 2)) (va_cpy (((ma_u1 a ((t + 1)) (va_cpy (a ((l1 + 1))) (a ((t + 1))) 0 0 4))) ((l1 + 2))) (((ma_u1 a ((t + 1)) (va_cpy (a ((l1 + 1))) (a ((t + 1))) 0 0 4))) ((t + 2))) 0 0 6))) ((t + 3))) 0 0 8))) ((l1 + 4))) (((ma_u1 ((ma_u1 ((ma_u1 a ((t + 1)) (va_cpy (a ((l1 + 1))) (a ((t + 1))) 0 0 4))) ((t + 2)) (va_cpy (((ma_u1 a ((t + 1)) (va_cpy (a ((l1 + 1))) (a ((t + 1))) 0 0 4))) ((l1 + 2))) (((ma_u1 a ((t + 1)) (va_cpy (a ((l1 + 1))) (a ((t + 1))) 0 0 4))) ((t + 2))) 0 0 6))) ((t + 3)) (va_cpy (((ma_u1 ((ma_u1 a ((t + 1)) (va_cpy (a ((l1 + 1))) (a ((t + 1))) 0 0 4))) ((t + 2)) (va_cpy (((ma_u1 a ((t + 1)) (va_cpy (a ((l1 + 1))) (a ((t + 1))) 0 0 4))) ((l1 + 2))) (((ma_u1 a ((t + 1)) (va_cpy (a ((l1 + 1))) (a ((t + 1))) 0 0 4))) ((t + 2))) 0 0 6))) ((l1 + 3))) (((ma_u1 ((ma_u1 a ((t + 1)) (va_cpy (a ((l1 + 1))) (a ((t + 1))) 0 0 4))) ((t + 2)) (va_cpy (((ma_u1 a ((t + 1)) (va_cpy (a ((l1 + 1))) (a ((t + 1))) 0 0 4))) ((l1 + 2))) (((ma_u1 a ((t + 1)) (va_cpy (a ((l1 + 1))) (a ((t + 1))) 0 0 4))) ((t + 2))) 0 0 6))) ((t + 3))) 0 0 8))) ((t + 4))) 0 0 8))) ((t + 5))) 0 0 8))) ((l1 + 6))) (((ma_u1 ((ma_u1 ((ma_u1 ((ma_u1 ((ma_u1 a ((t + 1)) (va_cpy (a ((l1 + 1))) (a ((t + 1))) 0 0 4))) ((t + 2)) (va_cpy (((ma_u1 a ((t + 1)) (va_cpy (a ((l1 + 1))) (a ((t + 1))) 0 0 4))) ((l1 + 2))) (((ma_u1 a ((t + 1)) (va_cpy (a ((l1 + 1))) (a ((t + 1))) 0 0 4))) ((t + 2))) 0 0 6))) ((t + 3)) (va_cpy (((ma_u1 ((ma_u1 a ((t + 1)) (va_cpy (a ((l1 + 1))) (a ((t + 1))) 0 0 4))) ((t + 2)) (va_cpy (((ma_u1 a ((t + 1)) (va_cpy (a ((l1 + 1))) (a ((t + 1))) 0 0 4))) ((l1 + 2))) (((ma_u1 a ((t + 1)) (va_cpy (a ((l1 + 1))) (a ((t + 1))) 0 0 4))) ((t + 2))) 0 0 6))) ((l1 + 3))) (((ma_u1 ((ma_u1 a ((t + 1)) (va_cpy (a ((l1 + 1))) (a ((t + 1))) 0 0 4))) ((t + 2)) (va_cpy (((ma_u1 a ((t + 1)) (va_cpy (a ((l1 + 1))) (a ((t + 1))) 0 0 4))) ((l1 + 2))) (((ma_u1 a ((t + 1)) (va_cpy (a ((l1 + 1))) (a ((t + 1))) 0 0 4))) ((t + 2))) 0 0 6))) ((t + 3))) 0 0 8))) ((t + 4)) (va_cpy (((ma_u1 ((ma_u1 ((ma_u1 a ((t + 1)) (va_cpy (a ((l1 + 1))) (a ((t + 1))) 0 0 4))) ((t + 2)) (va_cpy (((ma_u1 a ((t + 1)) (va_cpy (a ((l1 + 1))) (a ((t + 1))) 0 0 4))) ((l1 + 2))) (((ma_u1 a ((t + 1)) (va_cpy (a ((l1 + 1))) (a ((t + 1))) 0 0 4))) ((t + 2))) 0 0 6))) ((t + 3)) (va_cpy (((ma_u1 ((ma_u1 a ((t + 1)) (va_cpy (a ((l1 + 1))) (a ((t + 1))) 0 0 4))) ((t + 2)) (va_cpy (((ma_u1 a ((t + 1)) (va_cpy (a ((l1 + 1))) (a ((t + 1))) 0 0 4))) ((l1 + 2))) (((ma_u1 a ((t + 1)) (va_cpy (a ((l1 + 1))) (a ((t + 1))) 0 0 4))) ((t + 2))) 0 0 6))) ((l1 + 3))) (((ma_u1 ((ma_u1 a ((t + 1)) (va_cpy (a ((l1 + 1))) (a ((t + 1))) 0 0 4))) ((t + 2)) (va_cpy (((ma_u1 a ((t + 1)) (va_cpy (a ((l1 + 1))) (a ((t + 1))) 0 0 4))) ((l1 + 2))) (((ma_u1 a ((t + 1)) (va_cpy (a ((l1 + 1))) (a ((t + 1))) 0 0 4))) ((t + 2))) 0 0 6))) ((t + 3))) 0 0 8))) ((l1 + 4))) (((ma_u1 ((ma_u1 ((ma_u1 a ((t + 1)) (va_cpy (a ((l1 + 1))) (a ((t + 1))) 0 0 4))) ((t + 2)) (va_cpy (((ma_u1 a ((t + 1)) (va_cpy (a ((l1 + 1))) (a ((t + 1))) 0 0 4))) ((l1 + 2))) (((ma_u1 a ((t + 1)) (va_cpy (a ((l1 + 1))) (a ((t + 1))) 0 0 4))) ((t + 2))) 0 0 6))) ((t + 3)) (va_cpy (((ma_u1 ((ma_u1 a ((t + 1)) (va_cpy (a ((l1 + 1))) (a ((t + 1))) 0 0 4))) ((t + 2)) (va_cpy (((ma_u1 a ((t + 1)) (va_cpy (a ((l1 + 1))) (a ((t + 1))) 0 0 4))) ((l1 + 2))) (((ma_u1 a ((t + 1)) (va_cpy (a ((l1 + 1))) (a ((t + 1))) 0 0 4))) ((t + 2))) 0 0 6))) ((l1 + 3))) (((ma_u1 ((ma_u1 a ((t + 1)) (va_cpy (a ((l1 + 1))) (a ((t + 1))) 0 0 4))) ((t + 2)) (va_cpy (((ma_u1 a ((t + 1)) (va_cpy (a ((l1 + 1))) (a ((t + 1))) 0 0 4))) ((l1 + 2))) (((ma_u1 a ((t + 1)) (va_cpy (a ((l1 + 1))) (a ((t + 1))) 0 0 4))) ((t + 2))) 0 0 6))) ((t + 3))) 0 0 8))) ((t + 4))) 0 0 8))) ((t + 5)) (va_cpy (((ma_u1 ((ma_u1 ((ma_u1 ((ma_u1 a ((t + 1)) (va_cpy (a ((l1 + 1))) (a ((t + 1))) 0 0 4))) ((t + 2)) (va_cpy (((ma_u1 a ((t + 1)) (va_cpy (a ((l1 + 1))) (a ((t + 1))) 0 0 4))) ((l1 + 2))) (((ma_u1 a ((t + 1)) (va_cpy (a ((l1 + 1))) (a ((t + 1))) 0 0 4))) ((t + 2))) 0 0 6))) ((t + 3)) (va_cpy (((ma_u1 ((ma_u1 a ((t + 1)) (va_cpy (a ((l1 + 1))) (a ((t + 1))) 0 0 4))) ((t + 2)) (va_cpy (((ma_u1 a ((t + 1)) (va_cpy (a ((l1 + 1))) (a ((t + 1))) 0 0 4))) ((l1 + 2))) (((ma_u1 a ((t + 1)) (va_cpy (a ((l1 + 1))) (a ((t + 1))) 0 0 4))) ((t + 2))) 0 0 6))) ((l1 + 3))) (((ma_u1 ((ma_u1 a ((t + 1)) (va_cpy (a ((l1 + 1))) (a ((t + 1))) 0 0 4))) ((t + 2)) (va_cpy (((ma_u1 a ((t + 1)) (va_cpy (a ((l1 + 1))) (a ((t + 1))) 0 0 4))) ((l1 + 2))) (((ma_u1 a ((t + 1)) (va_cpy (a ((l1 + 1))) (a ((t + 1))) 0 0 4))) ((t + 2))) 0 0 6))) ((t + 3))) 0 0 8))) ((t + 4)) (va_cpy (((ma_u1 ((ma_u1 ((ma_u1 a ((t + 1)) (va_cpy (a ((l1 + 1))) (a ((t + 1))) 0 0 4))) ((t + 2)) (va_cpy (((ma_u1 a ((t + 1)) (va_cpy (a ((l1 + 1))) (a ((t + 1))) 0 0 4))) ((l1 + 2))) (((ma_u1 a ((t + 1)) (va_cpy (a ((l1 + 1))) (a ((t + 1))) 0 0 4))) ((t + 2))) 0 0 6))) ((t + 3)) (va_cpy (((ma_u1 ((ma_u1 a ((t + 1)) (va_cpy (a ((l1 + 1))) (a ((t + 1))) 0 0 4))) ((t + 2)) (va_cpy (((ma_u1 a ((t + 1)) (va_cpy (a ((l1 + 1))) (a ((t + 1))) 0 0 4))) ((l1 + 2))) (((ma_u1 a ((t + 1)) (va_cpy (a ((l1 + 1))) (a ((t + 1))) 0 0 4))) ((t + 2))) 0 0 6))) ((l1 + 3))) (((ma_u1 ((ma_u1 a ((t + 1)) (va_cpy (a ((l1 + 1))) (a ((t + 1))) 0 0 4))) ((t + 2)) (va_cpy (((ma_u1 a ((t + 1)) (va_cpy (a ((l1 + 1))) (a ((t + 1))) 0 0 4))) ((l1 + 2))) (((ma_u1 a ((t + 1)) (va_cpy (a ((l1 + 1))) (a ((t + 1))) 0 0 4))) ((t + 2))) 0 0 6))) ((t + 3))) 0 0 8))) ((l1 + 4))) (((ma_u1 ((ma_u1 ((ma_u1 a ((t + 1)) (va_cpy (a ((l1 + 1))) (a ((t + 1))) 0 0 4))) ((t + 2)) (va_cpy (((ma_u1 a ((t + 1)) (va_cpy (a ((l1 + 1))) (a ((t + 1))) 0 0 4))) ((l1 + 2))) (((ma_u1 a ((t + 1)) (va_cpy (a ((l1 + 1))) (a ((t + 1))) 0 0 4))) ((t + 2))) 0 0 6))) ((t + 3)) (va_cpy (((ma_u1 ((ma_u1 a ((t + 1)) (va_cpy (a ((l1 + 1))) (a ((t + 1))) 0 0 4))) ((t + 2)) (va_cpy (((ma_u1 a ((t + 1)) (va_cpy (a ((l1 + 1))) (a ((t + 1))) 0 0 4))) ((l1 + 2))) (((ma_u1 a ((t + 1)) (va_cpy (a ((l1 + 1))) (a ((t + 1))) 0 0 4))) ((t + 2))) 0 0 6))) ((l1 + 3))) (((ma_u1 ((ma_u1 a ((t + 1)) (va_cpy (a ((l1 + 1))) (a ((t + 1))) 0 0 4))) ((t + 2)) (va_cpy (((ma_u1 a ((t + 1)) (va_cpy (a ((l1 + 1))) (a ((t + 1))) 0 0 4))) ((l1 + 2))) (((ma_u1 a ((t + 1)) (va_cpy (a ((l1 + 1))) (a ((t + 1))) 0 0 4))) ((t + 2))) 0 0 6))) ((t + 3))) 0 0 8))) ((t + 4))) 0 0 8))) ((l1 + 5))) (((ma_u1 ((ma_u1 ((ma_u1 ((ma_u1 a ((t + 1)) (va_cpy (a ((l1 + 1))) (a ((t + 1))) 0 0 4))) ((t + 2)) (va_cpy (((ma_u1 a ((t + 1)) (va_cpy (a ((l1 + 1))) (a ((t + 1))) 0 0 4))) ((l1 + 2))) (((ma_u1 a ((t + 1)) (va_cpy (a ((l1 + 1))) (a ((t + 1))) 0 0 4))) ((t + 2))) 0 0 6))) ((t + 3)) (va_cpy (((ma_u1 ((ma_u1 a ((t + 1)) (va_cpy (a ((l1 + 1))) (a ((t + 1))) 0 0 4))) ((t + 2)) (va_cpy (((ma_u1 a ((t + 1)) (va_cpy (a ((l1 + 1))) (a ((t + 1))) 0 0 4))) ((l1 + 2))) (((ma_u1 a ((t + 1)) (va_cpy (a ((l1 + 1))) (a ((t + 1))) 0 0 4))) ((t + 2))) 0 0 6))) ((l1 + 3))) (((ma_u1 ((ma_u1 a ((t + 1)) (va_cpy (a ((l1 + 1))) (a ((t + 1))) 0 0 4))) ((t + 2)) (va_cpy (((ma_u1 a ((t + 1)) (va_cpy (a ((l1 + 1))) (a ((t + 1))) 0 0 4))) ((l1 + 2))) (((ma_u1 a ((t + 1)) (va_cpy (a ((l1 + 1))) (a ((t + 1))) 0 0 4))) ((t + 2))) 0 0 6))) ((t + 3))) 0 0 8))) ((t + 4)) (va_cpy (((ma_u1 ((ma_u1 ((ma_u1 a ((t + 1)) (va_cpy (a ((l1 + 1))) (a ((t + 1))) 0 0 4))) ((t + 2)) (va_cpy (((ma_u1 a ((t + 1)) (va_cpy (a ((l1 + 1))) (a ((t + 1))) 0 0 4))) ((l1 + 2))) (((ma_u1 a ((t + 1)) (va_cpy (a ((l1 + 1))) (a ((t + 1))) 0 0 4))) ((t + 2))) 0 0 6))) ((t + 3)) (va_cpy (((ma_u1 ((ma_u1 a ((t + 1)) (va_cpy (a ((l1 + 1))) (a ((t + 1))) 0 0 4))) ((t + 2)) (va_cpy (((ma_u1 a ((t + 1)) (va_cpy (a ((l1 + 1))) (a ((t + 1))) 0 0 4))) ((l1 + 2))) (((ma_u1 a ((t + 1)) (va_cpy (a ((l1 + 1))) (a ((t + 1))) 0 0 4))) ((t + 2))) 0 0 6))) ((l1 + 3))) (((ma_u1 ((ma_u1 a ((t + 1)) (va_cpy (a ((l1 + 1))) (a ((t + 1))) 0 0 4))) ((t + 2)) (va_cpy (((ma_u1 a ((t + 1)) (va_cpy (a ((l1 + 1))) (a ((t + 1))) 0 0 4))) ((l1 + 2))) (((ma_u1 a ((t + 1)) (va_cpy (a ((l1 + 1))) (a ((t + 1))) 0 0 4))) ((t + 2))) 0 0 6))) ((t + 3))) 0 0 8))) ((l1 + 4))) (((ma_u1 ((ma_u1 ((ma_u1 a ((t + 1)) (va_cpy (a ((l1 + 1))) (a ((t + 1))) 0 0 4))) ((t + 2)) (va_cpy (((ma_u1 a ((t + 1)) (va_cpy (a ((l1 + 1))) (a ((t + 1))) 0 0 4))) ((l1 + 2))) (((ma_u1 a ((t + 1)) (va_cpy (a ((l1 + 1))) (a ((t + 1))) 0 0 4))) ((t + 2))) 0 0 6))) ((t + 3)) (va_cpy (((ma_u1 ((ma_u1 a ((t + 1)) (va_cpy (a ((l1 + 1))) (a ((t + 1))) 0 0 4))) ((t + 2)) (va_cpy (((ma_u1 a ((t + 1)) (va_cpy (a ((l1 + 1))) (a ((t + 1))) 0 0 4))) ((l1 + 2))) (((ma_u1 a ((t + 1)) (va_cpy (a ((l1 + 1))) (a ((t + 1))) 0 0 4))) ((t + 2))) 0 0 6))) ((l1 + 3))) (((ma_u1 ((ma_u1 a ((t + 1)) (va_cpy (a ((l1 + 1))) (a ((t + 1))) 0 0 4))) ((t + 2)) (va_cpy (((ma_u1 a ((t + 1)) (va_cpy (a ((l1 + 1))) (a ((t + 1))) 0 0 4))) ((l1 + 2))) (((ma_u1 a ((t + 1)) (va_cpy (a ((l1 + 1))) (a ((t + 1))) 0 0 4))) ((t + 2))) 0 0 6))) ((t + 3))) 0 0 8))) ((t + 4))) 0 0 8))) ((t + 5))) 0 0 8))) ((t + 6))) 0 0 8))) ((l1 + 7))) (((ma_u1 ((ma_u1 ((ma_u1 ((ma_u1 ((ma_u1 ((ma_u1 a ((t + 1)) (va_cpy (a ((l1 + 1))) (a ((t + 1))) 0 0 4))) ((t + 2)) (va_cpy (((ma_u1 a ((t + 1)) (va_cpy (a ((l1 + 1))) (a ((t + 1))) 0 0 4))) ((l1 + 2))) (((ma_u1 a ((t + 1)) (va_cpy (a ((l1 + 1))) (a ((t + 1))) 0 0 4))) ((t + 2))) 0 0 6))) ((t + 3)) (va_cpy (((ma_u1 ((ma_u1 a ((t + 1)) (va_cpy (a ((l1 + 1))) (a ((t + 1))) 0 0 4))) ((t + 2)) (va_cpy (((ma_u1 a ((t + 1)) (va_cpy (a ((l1 + 1))) (a ((t + 1))) 0 0 4))) ((l1 + 2))) (((ma_u1 a ((t + 1)) (va_cpy (a ((l1 + 1))) (a ((t + 1))) 0 0 4))) ((t + 2))) 0 0 6))) ((l1 + 3))) (((ma_u1 ((ma_u1 a ((t + 1)) (va_cpy (a ((l1 + 1))) (a ((t + 1))) 0 0 4))) ((t + 2)) (va_cpy (((ma_u1 a ((t + 1)) (va_cpy (a ((l1 + 1))) (a ((t + 1))) 0 0 4))) ((l1 + 2))) (((ma_u1 a ((t + 1)) (va_cpy (a ((l1 + 1))) (a ((t + 1))) 0 0 4))) ((t + 2))) 0 0 6))) ((t + 3))) 0 0 8))) ((t + 4)) (va_cpy (((ma_u1 ((ma_u1 ((ma_u1 a ((t + 1)) (va_cpy (a ((l1 + 1))) (a ((t + 1))) 0 0 4))) ((t + 2)) (va_cpy (((ma_u1 a ((t + 1)) (va_cpy (a ((l1 + 1))) (a ((t + 1))) 0 0 4))) ((l1 + 2))) (((ma_u1 a ((t + 1)) (va_cpy (a ((l1 + 1))) (a ((t + 1))) 0 0 4))) ((t + 2))) 0 0 6))) ((t + 3)) (va_cpy (((ma_u1 ((ma_u1 a ((t + 1)) (va_cpy (a ((l1 + 1))) (a ((t + 1))) 0 0 4))) ((t + 2)) (va_cpy (((ma_u1 a ((t + 1)) (va_cpy (a ((l1 + 1))) (a ((t + 1))) 0 0 4))) ((l1 + 2))) (((ma_u1 a ((t + 1)) (va_cpy (a ((l1 + 1))) (a ((t + 1))) 0 0 4))) ((t + 2))) 0 0 6))) ((l1 + 3))) (((ma_u1 ((ma_u1 a ((t + 1)) (va_cpy (a ((l1 + 1))) (a ((t + 1))) 0 0 4))) ((t + 2)) (va_cpy (((ma_u1 a ((t + 1)) (va_cpy (a ((l1 + 1))) (a ((t + 1))) 0 0 4))) ((l1 + 2))) (((ma_u1 a ((t + 1)) (va_cpy (a ((l1 + 1))) (a ((t + 1))) 0 0 4))) ((t + 2))) 0 0 6))) ((t + 3))) 0 0 8))) ((l1 + 4))) (((ma_u1 ((ma_u1 ((ma_u1 a ((t + 1)) (va_cpy (a ((l1 + 1))) (a ((t + 1))) 0 0 4))) ((t + 2)) (va_cpy (((ma_u1 a ((t + 1)) (va_cpy (a ((l1 + 1))) (a ((t + 1))) 0 0 4))) ((l1 + 2))) (((ma_u1 a ((t + 1)) (va_cpy (a ((l1 + 1))) (a ((t + 1))) 0 0 4))) ((t + 2))) 0 0 6))) ((t + 3)) (va_cpy (((ma_u1 ((ma_u1 a ((t + 1)) (va_cpy (a ((l1 + 1))) (a ((t + 1))) 0 0 4))) ((t + 2)) (va_cpy (((ma_u1 a ((t + 1)) (va_cpy (a ((l1 + 1))) (a ((t + 1))) 0 0 4))) ((l1 + 2))) (((ma_u1 a ((t + 1)) (va_cpy (a ((l1 + 1))) (a ((t + 1))) 0 0 4))) ((t + 2))) 0 0 6))) ((l1 + 3))) (((ma_u1 ((ma_u1 a ((t + 1)) (va_cpy (a ((l1 + 1))) (a ((t + 1))) 0 0 4))) ((t + 2)) (va_cpy (((ma_u1 a ((t + 1)) (va_cpy (a ((l1 + 1))) (a ((t + 1))) 0 0 4))) ((l1 + 2))) (((ma_u1 a ((t + 1)) (va_cpy (a ((l1 + 1))) (a ((t + 1))) 0 0 4))) ((t + 2))) 0 0 6))) ((t + 3))) 0 0 8))) ((t + 4))) 0 0 8))) ((t + 5)) (va_cpy (((ma_u1 ((ma_u1 ((ma_u1 ((ma_u1 a ((t + 1)) (va_cpy (a ((l1 + 1))) (a ((t + 1))) 0 0 4))) ((t + 2)) (va_cpy (((ma_u1 a ((t + 1)) (va_cpy (a ((l1 + 1))) (a ((t + 1))) 0 0 4))) ((l1 + 2))) (((ma_u1 a ((t + 1)) (va_cpy (a ((l1 + 1))) (a ((t + 1))) 0 0 4))) ((t + 2))) 0 0 6))) ((t + 3)) (va_cpy (((ma_u1 ((ma_u1 a ((t + 1)) (va_cpy (a ((l1 + 1))) (a ((t + 1))) 0 0 4))) ((t + 2)) (va_cpy (((ma_u1 a ((t + 1)) (va_cpy (a ((l1 + 1))) (a ((t + 1))) 0 0 4))) ((l1 + 2))) (((ma_u1 a ((t + 1)) (va_cpy (a ((l1 + 1))) (a ((t + 1))) 0 0 4))) ((t + 2))) 0 0 6))) ((l1 + 3))) (((ma_u1 ((ma_u1 a ((t + 1)) (va_cpy (a ((l1 + 1))) (a ((t + 1))) 0 0 4))) ((t + 2)) (va_cpy (((ma_u1 a ((t + 1)) (va_cpy (a ((l1 + 1))) (a ((t + 1))) 0 0 4))) ((l1 + 2))) (((ma_u1 a ((t + 1)) (va_cpy (a ((l1 + 1))) (a ((t + 1))) 0 0 4))) ((t + 2))) 0 0 6))) ((t + 3))) 0 0 8))) ((t + 4)) (va_cpy (((ma_u1 ((ma_u1 ((ma_u1 a ((t + 1)) (va_cpy (a ((l1 + 1))) (a ((t + 1))) 0 0 4))) ((t + 2)) (va_cpy (((ma_u1 a ((t + 1)) (va_cpy (a ((l1 + 1))) (a ((t + 1))) 0 0 4))) ((l1 + 2))) (((ma_u1 a ((t + 1)) (va_cpy (a ((l1 + 1))) (a ((t + 1))) 0 0 4))) ((t + 2))) 0 0 6))) ((t + 3)) (va_cpy (((ma_u1 ((ma_u1 a ((t + 1)) (va_cpy (a ((l1 + 1))) (a ((t + 1))) 0 0 4))) ((t + 2)) (va_cpy (((ma_u1 a ((t + 1)) (va_cpy (a ((l1 + 1))) (a ((t + 1))) 0 0 4))) ((l1 + 2))) (((ma_u1 a ((t + 1)) (va_cpy (a ((l1 + 1))) (a ((t + 1))) 0 0 4))) ((t + 2))) 0 0 6))) ((l1 + 3))) (((ma_u1 ((ma_u1 a ((t + 1)) (va_cpy (a ((l1 + 1))) (a ((t + 1))) 0 0 4))) ((t + 2)) (va_cpy (((ma_u1 a ((t + 1)) (va_cpy (a ((l1 + 1))) (a ((t + 1))) 0 0 4))) ((l1 + 2))) (((ma_u1 a ((t + 1)) (va_cpy (a ((l1 + 1))) (a ((t + 1))) 0 0 4))) ((t + 2))) 0 0 6))) ((t + 3))) 0 0 8))) ((l1 + 4))) (((ma_u1 ((ma_u1 ((ma_u1 a ((t + 1)) (va_cpy (a ((l1 + 1))) (a ((t + 1))) 0 0 4))) ((t + 2)) (va_cpy (((ma_u1 a ((t + 1)) (va_cpy (a ((l1 + 1))) (a ((t + 1))) 0 0 4))) ((l1 + 2))) (((ma_u1 a ((t + 1)) (va_cpy (a ((l1 + 1))) (a ((t + 1))) 0 0 4))) ((t + 2))) 0 0 6))) ((t + 3)) (va_cpy (((ma_u1 ((ma_u1 a ((t + 1)) (va_cpy (a ((l1 + 1))) (a ((t + 1))) 0 0 4))) ((t + 2)) (va_cpy (((ma_u1 a ((t + 1)) (va_cpy (a ((l1 + 1))) (a ((t + 1))) 0 0 4))) ((l1 + 2))) (((ma_u1 a ((t + 1)) (va_cpy (a ((l1 + 1))) (a ((t + 1))) 0 0 4))) ((t + 2))) 0 0 6))) ((l1 + 3))) (((ma_u1 ((ma_u1 a ((t + 1)) (va_cpy (a ((l1 + 1))) (a ((t + 1))) 0 0 4))) ((t + 2)) (va_cpy (((ma_u1 a ((t + 1)) (va_cpy (a ((l1 + 1))) (a ((t + 1))) 0 0 4))) ((l1 + 2))) (((ma_u1 a ((t + 1)) (va_cpy (a ((l1 + 1))) (a ((t + 1))) 0 0 4))) ((t + 2))) 0 0 6))) ((t + 3))) 0 0 8))) ((t + 4))) 0 0 8))) ((l1 + 5))) (((ma_u1 ((ma_u1 ((ma_u1 ((ma_u1 a ((t + 1)) (va_cpy (a ((l1 + 1))) (a ((t + 1))) 0 0 4))) ((t + 2)) (va_cpy (((ma_u1 a ((t + 1)) (va_cpy (a ((l1 + 1))) (a ((t + 1))) 0 0 4))) ((l1 + 2))) (((ma_u1 a ((t + 1)) (va_cpy (a ((l1 + 1))) (a ((t + 1))) 0 0 4))) ((t + 2))) 0 0 6))) ((t + 3)) (va_cpy (((ma_u1 ((ma_u1 a ((t + 1)) (va_cpy (a ((l1 + 1))) (a ((t + 1))) 0 0 4))) ((t + 2)) (va_cpy (((ma_u1 a ((t + 1)) (va_cpy (a ((l1 + 1))) (a ((t + 1))) 0 0 4))) ((l1 + 2))) (((ma_u1 a ((t + 1)) (va_cpy (a ((l1 + 1))) (a ((t + 1))) 0 0 4))) ((t + 2))) 0 0 6))) ((l1 + 3))) (((ma_u1 ((ma_u1 a ((t + 1)) (va_cpy (a ((l1 + 1))) (a ((t + 1))) 0 0 4))) ((t + 2)) (va_cpy (((ma_u1 a ((t + 1)) (va_cpy (a ((l1 + 1))) (a ((t + 1))) 0 0 4))) ((l1 + 2))) (((ma_u1 a ((t + 1)) (va_cpy (a ((l1 + 1))) (a ((t + 1))) 0 0 4))) ((t + 2))) 0 0 6))) ((t + 3))) 0 0 8))) ((t + 4)) (va_cpy (((ma_u1 ((ma_u1 ((ma_u1 a ((t + 1)) (va_cpy (a ((l1 + 1))) (a ((t + 1))) 0 0 4))) ((t + 2)) (va_cpy (((ma_u1 a ((t + 1)) (va_cpy (a ((l1 + 1))) (a ((t + 1))) 0 0 4))) ((l1 + 2))) (((ma_u1 a ((t + 1)) (va_cpy (a ((l1 + 1))) (a ((t + 1))) 0 0 4))) ((t + 2))) 0 0 6))) ((t + 3)) (va_cpy (((ma_u1 ((ma_u1 a ((t + 1)) (va_cpy (a ((l1 + 1))) (a ((t + 1))) 0 0 4))) ((t + 2)) (va_cpy (((ma_u1 a ((t + 1)) (va_cpy (a ((l1 + 1))) (a ((t + 1))) 0 0 4))) ((l1 + 2))) (((ma_u1 a ((t + 1)) (va_cpy (a ((l1 + 1))) (a ((t + 1))) 0 0 4))) ((t + 2))) 0 0 6))) ((l1 + 3))) (((ma_u1 ((ma_u1 a ((t + 1)) (va_cpy (a ((l1 + 1))) (a ((t + 1))) 0 0 4))) ((t + 2)) (va_cpy (((ma_u1 a ((t + 1)) (va_cpy (a ((l1 + 1))) (a ((t + 1))) 0 0 4))) ((l1 + 2))) (((ma_u1 a ((t + 1)) (va_cpy (a ((l1 + 1))) (a ((t + 1))) 0 0 4))) ((t + 2))) 0 0 6))) ((t + 3))) 0 0 8))) ((l1 + 4))) (((ma_u1 ((ma_u1 ((ma_u1 a ((t + 1)) (va_cpy (a ((l1 + 1))) (a ((t + 1))) 0 0 4))) ((t + 2)) (va_cpy (((ma_u1 a ((t + 1)) (va_cpy (a ((l1 + 1))) (a ((t + 1))) 0 0 4))) ((l1 + 2))) (((ma_u1 a ((t + 1)) (va_cpy (a ((l1 + 1))) (a ((t + 1))) 0 0 4))) ((t + 2))) 0 0 6))) ((t + 3)) (va_cpy (((ma_u1 ((ma_u1 a ((t + 1)) (va_cpy (a ((l1 + 1))) (a ((t + 1))) 0 0 4))) ((t + 2)) (va_cpy (((ma_u1 a ((t + 1)) (va_cpy (a ((l1 + 1))) (a ((t + 1))) 0 0 4))) ((l1 + 2))) (((ma_u1 a ((t + 1)) (va_cpy (a ((l1 + 1))) (a ((t + 1))) 0 0 4))) ((t + 2))) 0 0 6))) ((l1 + 3))) (((ma_u1 ((ma_u1 a ((t + 1)) (va_cpy (a ((l1 + 1))) (a ((t + 1))) 0 0 4))) ((t + 2)) (va_cpy (((ma_u1 a ((t + 1)) (va_cpy (a ((l1 + 1))) (a ((t + 1))) 0 0 4))) ((l1 + 2))) (((ma_u1 a ((t + 1)) (va_cpy (a ((l1 + 1))) (a ((t + 1))) 0 0 4))) ((t + 2))) 0 0 6))) ((t + 3))) 0 0 8))) ((t + 4))) 0 0 8))) ((t + 5))) 0 0 8))) ((t + 6)) (va_cpy (((ma_u1 ((ma_u1 ((ma_u1 ((ma_u1 ((ma_u1 a ((t + 1)) (va_cpy (a ((l1 + 1))) (a ((t + 1))) 0 0 4))) ((t + 2)) (va_cpy (((ma_u1 a ((t + 1)) (va_cpy (a ((l1 + 1))) (a ((t + 1))) 0 0 4))) ((l1 + 2))) (((ma_u1 a ((t + 1)) (va_cpy (a ((l1 + 1))) (a ((t + 1))) 0 0 4))) ((t + 2))) 0 0 6))) ((t + 3)) (va_cpy (((ma_u1 ((ma_u1 a ((t + 1)) (va_cpy (a ((l1 + 1))) (a ((t + 1))) 0 0 4))) ((t + 2)) (va_cpy (((ma_u1 a ((t + 1)) (va_cpy (a ((l1 + 1))) (a ((t + 1))) 0 0 4))) ((l1 + 2))) (((ma_u1 a ((t + 1)) (va_cpy (a ((l1 + 1))) (a ((t + 1))) 0 0 4))) ((t + 2))) 0 0 6))) ((l1 + 3))) (((ma_u1 ((ma_u1 a ((t + 1)) (va_cpy (a ((l1 + 1))) (a ((t + 1))) 0 0 4))) ((t + 2)) (va_cpy (((ma_u1 a ((t + 1)) (va_cpy (a ((l1 + 1))) (a ((t + 1))) 0 0 4))) ((l1 + 2))) (((ma_u1 a ((t + 1)) (va_cpy (a ((l1 + 1))) (a ((t + 1))) 0 0 4))) ((t + 2))) 0 0 6))) ((t + 3))) 0 0 8))) ((t + 4)) (va_cpy (((ma_u1 ((ma_u1 ((ma_u1 a ((t + 1)) (va_cpy (a ((l1 + 1))) (a ((t + 1))) 0 0 4))) ((t + 2)) (va_cpy (((ma_u1 a ((t + 1)) (va_cpy (a ((l1 + 1))) (a ((t + 1))) 0 0 4))) ((l1 + 2))) (((ma_u1 a ((t + 1)) (va_cpy (a ((l1 + 1))) (a ((t + 1))) 0 0 4))) ((t + 2))) 0 0 6))) ((t + 3)) (va_cpy (((ma_u1 ((ma_u1 a ((t + 1)) (va_cpy (a ((l1 + 1))) (a ((t + 1))) 0 0 4))) ((t + 2)) (va_cpy (((ma_u1 a ((t + 1)) (va_cpy (a ((l1 + 1))) (a ((t + 1))) 0 0 4))) ((l1 + 2))) (((ma_u1 a ((t + 1)) (va_cpy (a ((l1 + 1))) (a ((t + 1))) 0 0 4))) ((t + 2))) 0 0 6))) ((l1 + 3))) (((ma_u1 ((ma_u1 a ((t + 1)) (va_cpy (a ((l1 + 1))) (a ((t + 1))) 0 0 4))) ((t + 2)) (va_cpy (((ma_u1 a ((t + 1)) (va_cpy (a ((l1 + 1))) (a ((t + 1))) 0 0 4))) ((l1 + 2))) (((ma_u1 a ((t + 1)) (va_cpy (a ((l1 + 1))) (a ((t + 1))) 0 0 4))) ((t + 2))) 0 0 6))) ((t + 3))) 0 0 8))) ((l1 + 4))) (((ma_u1 ((ma_u1 ((ma_u1 a ((t + 1)) (va_cpy (a ((l1 + 1))) (a ((t + 1))) 0 0 4))) ((t + 2)) (va_cpy (((ma_u1 a ((t + 1)) (va_cpy (a ((l1 + 1))) (a ((t + 1))) 0 0 4))) ((l1 + 2))) (((ma_u1 a ((t + 1)) (va_cpy (a ((l1 + 1))) (a ((t + 1))) 0 0 4))) ((t + 2))) 0 0 6))) ((t + 3)) (va_cpy (((ma_u1 ((ma_u1 a ((t + 1)) (va_cpy (a ((l1 + 1))) (a ((t + 1))) 0 0 4))) ((t + 2)) (va_cpy (((ma_u1 a ((t + 1)) (va_cpy (a ((l1 + 1))) (a ((t + 1))) 0 0 4))) ((l1 + 2))) (((ma_u1 a ((t + 1)) (va_cpy (a ((l1 + 1))) (a ((t + 1))) 0 0 4))) ((t + 2))) 0 0 6))) ((l1 + 3))) (((ma_u1 ((ma_u1 a ((t + 1)) (va_cpy (a ((l1 + 1))) (a ((t + 1))) 0 0 4))) ((t + 2)) (va_cpy (((ma_u1 a ((t + 1)) (va_cpy (a ((l1 + 1))) (a ((t + 1))) 0 0 4))) ((l1 + 2))) (((ma_u1 a ((t + 1)) (va_cpy (a ((l1 + 1))) (a ((t + 1))) 0 0 4))) ((t + 2))) 0 0 6))) ((t + 3))) 0 0 8))) ((t + 4))) 0 0 8))) ((t + 5)) (va_cpy (((ma_u1 ((ma_u1 ((ma_u1 ((ma_u1 a ((t + 1)) (va_cpy (a ((l1 + 1))) (a ((t + 1))) 0 0 4))) ((t + 2)) (va_cpy (((ma_u1 a ((t + 1)) (va_cpy (a ((l1 + 1))) (a ((t + 1))) 0 0 4))) ((l1 + 2))) (((ma_u1 a ((t + 1)) (va_cpy (a ((l1 + 1))) (a ((t + 1))) 0 0 4))) ((t + 2))) 0 0 6))) ((t + 3)) (va_cpy (((ma_u1 ((ma_u1 a ((t + 1)) (va_cpy (a ((l1 + 1))) (a ((t + 1))) 0 0 4))) ((t + 2)) (va_cpy (((ma_u1 a ((t + 1)) (va_cpy (a ((l1 + 1))) (a ((t + 1))) 0 0 4))) ((l1 + 2))) (((ma_u1 a ((t + 1)) (va_cpy (a ((l1 + 1))) (a ((t + 1))) 0 0 4))) ((t + 2))) 0 0 6))) ((l1 + 3))) (((ma_u1 ((ma_u1 a ((t + 1)) (va_cpy (a ((l1 + 1))) (a ((t + 1))) 0 0 4))) ((t + 2)) (va_cpy (((ma_u1 a ((t + 1)) (va_cpy (a ((l1 + 1))) (a ((t + 1))) 0 0 4))) ((l1 + 2))) (((ma_u1 a ((t + 1)) (va_cpy (a ((l1 + 1))) (a ((t + 1))) 0 0 4))) ((t + 2))) 0 0 6))) ((t + 3))) 0 0 8))) ((t + 4)) (va_cpy (((ma_u1 ((ma_u1 ((ma_u1 a ((t + 1)) (va_cpy (a ((l1 + 1))) (a ((t + 1))) 0 0 4))) ((t + 2)) (va_cpy (((ma_u1 a ((t + 1)) (va_cpy (a ((l1 + 1))) (a ((t + 1))) 0 0 4))) ((l1 + 2))) (((ma_u1 a ((t + 1)) (va_cpy (a ((l1 + 1))) (a ((t + 1))) 0 0 4))) ((t + 2))) 0 0 6))) ((t + 3)) (va_cpy (((ma_u1 ((ma_u1 a ((t + 1)) (va_cpy (a ((l1 + 1))) (a ((t + 1))) 0 0 4))) ((t + 2)) (va_cpy (((ma_u1 a ((t + 1)) (va_cpy (a ((l1 + 1))) (a ((t + 1))) 0 0 4))) ((l1 + 2))) (((ma_u1 a ((t + 1)) (va_cpy (a ((l1 + 1))) (a ((t + 1))) 0 0 4))) ((t + 2))) 0 0 6))) ((l1 + 3))) (((ma_u1 ((ma_u1 a ((t + 1)) (va_cpy (a ((l1 + 1))) (a ((t + 1))) 0 0 4))) ((t + 2)) (va_cpy (((ma_u1 a ((t + 1)) (va_cpy (a ((l1 + 1))) (a ((t + 1))) 0 0 4))) ((l1 + 2))) (((ma_u1 a ((t + 1)) (va_cpy (a ((l1 + 1))) (a ((t + 1))) 0 0 4))) ((t + 2))) 0 0 6))) ((t + 3))) 0 0 8))) ((l1 + 4))) (((ma_u1 ((ma_u1 ((ma_u1 a ((t + 1)) (va_cpy (a ((l1 + 1))) (a ((t + 1))) 0 0 4))) ((t + 2)) (va_cpy (((ma_u1 a ((t + 1)) (va_cpy (a ((l1 + 1))) (a ((t + 1))) 0 0 4))) ((l1 + 2))) (((ma_u1 a ((t + 1)) (va_cpy (a ((l1 + 1))) (a ((t + 1))) 0 0 4))) ((t + 2))) 0 0 6))) ((t + 3)) (va_cpy (((ma_u1 ((ma_u1 a ((t + 1)) (va_cpy (a ((l1 + 1))) (a ((t + 1))) 0 0 4))) ((t + 2)) (va_cpy (((ma_u1 a ((t + 1)) (va_cpy (a ((l1 + 1))) (a ((t + 1))) 0 0 4))) ((l1 + 2))) (((ma_u1 a ((t + 1)) (va_cpy (a ((l1 + 1))) (a ((t + 1))) 0 0 4))) ((t + 2))) 0 0 6))) ((l1 + 3))) (((ma_u1 ((ma_u1 a ((t + 1)) (va_cpy (a ((l1 + 1))) (a ((t + 1))) 0 0 4))) ((t + 2)) (va_cpy (((ma_u1 a ((t + 1)) (va_cpy (a ((l1 + 1))) (a ((t + 1))) 0 0 4))) ((l1 + 2))) (((ma_u1 a ((t + 1)) (va_cpy (a ((l1 + 1))) (a ((t + 1))) 0 0 4))) ((t + 2))) 0 0 6))) ((t + 3))) 0 0 8))) ((t + 4))) 0 0 8))) ((l1 + 5))) (((ma_u1 ((ma_u1 ((ma_u1 ((ma_u1 a ((t + 1)) (va_cpy (a ((l1 + 1))) (a ((t + 1))) 0 0 4))) ((t + 2)) (va_cpy (((ma_u1 a ((t + 1)) (va_cpy (a ((l1 + 1))) (a ((t + 1))) 0 0 4))) ((l1 + 2))) (((ma_u1 a ((t + 1)) (va_cpy (a ((l1 + 1))) (a ((t + 1))) 0 0 4))) ((t + 2))) 0 0 6))) ((t + 3)) (va_cpy (((ma_u1 ((ma_u1 a ((t + 1)) (va_cpy (a ((l1 + 1))) (a ((t + 1))) 0 0 4))) ((t + 2)) (va_cpy (((ma_u1 a ((t + 1)) (va_cpy (a ((l1 + 1))) (a ((t + 1))) 0 0 4))) ((l1 + 2))) (((ma_u1 a ((t + 1)) (va_cpy (a ((l1 + 1))) (a ((t + 1))) 0 0 4))) ((t + 2))) 0 0 6))) ((l1 + 3))) (((ma_u1 ((ma_u1 a ((t + 1)) (va_cpy (a ((l1 + 1))) (a ((t + 1))) 0 0 4))) ((t + 2)) (va_cpy (((ma_u1 a ((t + 1)) (va_cpy (a ((l1 + 1))) (a ((t + 1))) 0 0 4))) ((l1 + 2))) (((ma_u1 a ((t + 1)) (va_cpy (a ((l1 + 1))) (a ((t + 1))) 0 0 4))) ((t + 2))) 0 0 6))) ((t + 3))) 0 0 8))) ((t + 4)) (va_cpy (((ma_u1 ((ma_u1 ((ma_u1 a ((t + 1)) (va_cpy (a ((l1 + 1))) (a ((t + 1))) 0 0 4))) ((t + 2)) (va_cpy (((ma_u1 a ((t + 1)) (va_cpy (a ((l1 + 1))) (a ((t + 1))) 0 0 4))) ((l1 + 2))) (((ma_u1 a ((t + 1)) (va_cpy (a ((l1 + 1))) (a ((t + 1))) 0 0 4))) ((t + 2))) 0 0 6))) ((t + 3)) (va_cpy (((ma_u1 ((ma_u1 a ((t + 1)) (va_cpy (a ((l1 + 1))) (a ((t + 1))) 0 0 4))) ((t + 2)) (va_cpy (((ma_u1 a ((t + 1)) (va_cpy (a ((l1 + 1))) (a ((t + 1))) 0 0 4))) ((l1 + 2))) (((ma_u1 a ((t + 1)) (va_cpy (a ((l1 + 1))) (a ((t + 1))) 0 0 4))) ((t + 2))) 0 0 6))) ((l1 + 3))) (((ma_u1 ((ma_u1 a ((t + 1)) (va_cpy (a ((l1 + 1))) (a ((t + 1))) 0 0 4))) ((t + 2)) (va_cpy (((ma_u1 a ((t + 1)) (va_cpy (a ((l1 + 1))) (a ((t + 1))) 0 0 4))) ((l1 + 2))) (((ma_u1 a ((t + 1)) (va_cpy (a ((l1 + 1))) (a ((t + 1))) 0 0 4))) ((t + 2))) 0 0 6))) ((t + 3))) 0 0 8))) ((l1 + 4))) (((ma_u1 ((ma_u1 ((ma_u1 a ((t + 1)) (va_cpy (a ((l1 + 1))) (a ((t + 1))) 0 0 4))) ((t + 2)) (va_cpy (((ma_u1 a ((t + 1)) (va_cpy (a ((l1 + 1))) (a ((t + 1))) 0 0 4))) ((l1 + 2))) (((ma_u1 a ((t + 1)) (va_cpy (a ((l1 + 1))) (a ((t + 1))) 0 0 4))) ((t + 2))) 0 0 6))) ((t + 3)) (va_cpy (((ma_u1 ((ma_u1 a ((t + 1)) (va_cpy (a ((l1 + 1))) (a ((t + 1))) 0 0 4))) ((t + 2)) (va_cpy (((ma_u1 a ((t + 1)) (va_cpy (a ((l1 + 1))) (a ((t + 1))) 0 0 4))) ((l1 + 2))) (((ma_u1 a ((t + 1)) (va_cpy (a ((l1 + 1))) (a ((t + 1))) 0 0 4))) ((t + 2))) 0 0 6))) ((l1 + 3))) (((ma_u1 ((ma_u1 a ((t + 1)) (va_cpy (a ((l1 + 1))) (a ((t + 1))) 0 0 4))) ((t + 2)) (va_cpy (((ma_u1 a ((t + 1)) (va_cpy (a ((l1 + 1))) (a ((t + 1))) 0 0 4))) ((l1 + 2))) (((ma_u1 a ((t + 1)) (va_cpy (a ((l1 + 1))) (a ((t + 1))) 0 0 4))) ((t + 2))) 0 0 6))) ((t + 3))) 0 0 8))) ((t + 4))) 0 0 8))) ((t + 5))) 0 0 8))) ((l1 + 6))) (((ma_u1 ((ma_u1 ((ma_u1 ((ma_u1 ((ma_u1 a ((t + 1)) (va_cpy (a ((l1 + 1))) (a ((t + 1))) 0 0 4))) ((t + 2)) (va_cpy (((ma_u1 a ((t + 1)) (va_cpy (a ((l1 + 1))) (a ((t + 1))) 0 0 4))) ((l1 + 2))) (((ma_u1 a ((t + 1)) (va_cpy (a ((l1 + 1))) (a ((t + 1))) 0 0 4))) ((t + 2))) 0 0 6))) ((t + 3)) (va_cpy (((ma_u1 ((ma_u1 a ((t + 1)) (va_cpy (a ((l1 + 1))) (a ((t + 1))) 0 0 4))) ((t + 2)) (va_cpy (((ma_u1 a ((t + 1)) (va_cpy (a ((l1 + 1))) (a ((t + 1))) 0 0 4))) ((l1 + 2))) (((ma_u1 a ((t + 1)) (va_cpy (a ((l1 + 1))) (a ((t + 1))) 0 0 4))) ((t + 2))) 0 0 6))) ((l1 + 3))) (((ma_u1 ((ma_u1 a ((t + 1)) (va_cpy (a ((l1 + 1))) (a ((t + 1))) 0 0 4))) ((t + 2)) (va_cpy (((ma_u1 a ((t + 1)) (va_cpy (a ((l1 + 1))) (a ((t + 1))) 0 0 4))) ((l1 + 2))) (((ma_u1 a ((t + 1)) (va_cpy (a ((l1 + 1))) (a ((t + 1))) 0 0 4))) ((t + 2))) 0 0 6))) ((t + 3))) 0 0 8))) ((t + 4)) (va_cpy (((ma_u1 ((ma_u1 ((ma_u1 a ((t + 1)) (va_cpy (a ((l1 + 1))) (a ((t + 1))) 0 0 4))) ((t + 2)) (va_cpy (((ma_u1 a ((t + 1)) (va_cpy (a ((l1 + 1))) (a ((t + 1))) 0 0 4))) ((l1 + 2))) (((ma_u1 a ((t + 1)) (va_cpy (a ((l1 + 1))) (a ((t + 1))) 0 0 4))) ((t + 2))) 0 0 6))) ((t + 3)) (va_cpy (((ma_u1 ((ma_u1 a ((t + 1)) (va_cpy (a ((l1 + 1))) (a ((t + 1))) 0 0 4))) ((t + 2)) (va_cpy (((ma_u1 a ((t + 1)) (va_cpy (a ((l1 + 1))) (a ((t + 1))) 0 0 4))) ((l1 + 2))) (((ma_u1 a ((t + 1)) (va_cpy (a ((l1 + 1))) (a ((t + 1))) 0 0 4))) ((t + 2))) 0 0 6))) ((l1 + 3))) (((ma_u1 ((ma_u1 a ((t + 1)) (va_cpy (a ((l1 + 1))) (a ((t + 1))) 0 0 4))) ((t + 2)) (va_cpy (((ma_u1 a ((t + 1)) (va_cpy (a ((l1 + 1))) (a ((t + 1))) 0 0 4))) ((l1 + 2))) (((ma_u1 a ((t + 1)) (va_cpy (a ((l1 + 1))) (a ((t + 1))) 0 0 4))) ((t + 2))) 0 0 6))) ((t + 3))) 0 0 8))) ((l1 + 4))) (((ma_u1 ((ma_u1 ((ma_u1 a ((t + 1)) (va_cpy (a ((l1 + 1))) (a ((t + 1))) 0 0 4))) ((t + 2)) (va_cpy (((ma_u1 a ((t + 1)) (va_cpy (a ((l1 + 1))) (a ((t + 1))) 0 0 4))) ((l1 + 2))) (((ma_u1 a ((t + 1)) (va_cpy (a ((l1 + 1))) (a ((t + 1))) 0 0 4))) ((t + 2))) 0 0 6))) ((t + 3)) (va_cpy (((ma_u1 ((ma_u1 a ((t + 1)) (va_cpy (a ((l1 + 1))) (a ((t + 1))) 0 0 4))) ((t + 2)) (va_cpy (((ma_u1 a ((t + 1)) (va_cpy (a ((l1 + 1))) (a ((t + 1))) 0 0 4))) ((l1 + 2))) (((ma_u1 a ((t + 1)) (va_cpy (a ((l1 + 1))) (a ((t + 1))) 0 0 4))) ((t + 2))) 0 0 6))) ((l1 + 3))) (((ma_u1 ((ma_u1 a ((t + 1)) (va_cpy (a ((l1 + 1))) (a ((t + 1))) 0 0 4))) ((t + 2)) (va_cpy (((ma_u1 a ((t + 1)) (va_cpy (a ((l1 + 1))) (a ((t + 1))) 0 0 4))) ((l1 + 2))) (((ma_u1 a ((t + 1)) (va_cpy (a ((l1 + 1))) (a ((t + 1))) 0 0 4))) ((t + 2))) 0 0 6))) ((t + 3))) 0 0 8))) ((t + 4))) 0 0 8))) ((t + 5)) (va_cpy (((ma_u1 ((ma_u1 ((ma_u1 ((ma_u1 a ((t + 1)) (va_cpy (a ((l1 + 1))) (a ((t + 1))) 0 0 4))) ((t + 2)) (va_cpy (((ma_u1 a ((t + 1)) (va_cpy (a ((l1 + 1))) (a ((t + 1))) 0 0 4))) ((l1 + 2))) (((ma_u1 a ((t + 1)) (va_cpy (a ((l1 + 1))) (a ((t + 1))) 0 0 4))) ((t + 2))) 0 0 6))) ((t + 3)) (va_cpy (((ma_u1 ((ma_u1 a ((t + 1)) (va_cpy (a ((l1 + 1))) (a ((t + 1))) 0 0 4))) ((t + 2)) (va_cpy (((ma_u1 a ((t + 1)) (va_cpy (a ((l1 + 1))) (a ((t + 1))) 0 0 4))) ((l1 + 2))) (((ma_u1 a ((t + 1)) (va_cpy (a ((l1 + 1))) (a ((t + 1))) 0 0 4))) ((t + 2))) 0 0 6))) ((l1 + 3))) (((ma_u1 ((ma_u1 a ((t + 1)) (va_cpy (a ((l1 + 1))) (a ((t + 1))) 0 0 4))) ((t + 2)) (va_cpy (((ma_u1 a ((t + 1)) (va_cpy (a ((l1 + 1))) (a ((t + 1))) 0 0 4))) ((l1 + 2))) (((ma_u1 a ((t + 1)) (va_cpy (a ((l1 + 1))) (a ((t + 1))) 0 0 4))) ((t + 2))) 0 0 6))) ((t + 3))) 0 0 8))) ((t + 4)) (va_cpy (((ma_u1 ((ma_u1 ((ma_u1 a ((t + 1)) (va_cpy (a ((l1 + 1))) (a ((t + 1))) 0 0 4))) ((t + 2)) (va_cpy (((ma_u1 a ((t + 1)) (va_cpy (a ((l1 + 1))) (a ((t + 1))) 0 0 4))) ((l1 + 2))) (((ma_u1 a ((t + 1)) (va_cpy (a ((l1 + 1))) (a ((t + 1))) 0 0 4))) ((t + 2))) 0 0 6))) ((t + 3)) (va_cpy (((ma_u1 ((ma_u1 a ((t + 1)) (va_cpy (a ((l1 + 1))) (a ((t + 1))) 0 0 4))) ((t + 2)) (va_cpy (((ma_u1 a ((t + 1)) (va_cpy (a ((l1 + 1))) (a ((t + 1))) 0 0 4))) ((l1 + 2))) (((ma_u1 a ((t + 1)) (va_cpy (a ((l1 + 1))) (a ((t + 1))) 0 0 4))) ((t + 2))) 0 0 6))) ((l1 + 3))) (((ma_u1 ((ma_u1 a ((t + 1)) (va_cpy (a ((l1 + 1))) (a ((t + 1))) 0 0 4))) ((t + 2)) (va_cpy (((ma_u1 a ((t + 1)) (va_cpy (a ((l1 + 1))) (a ((t + 1))) 0 0 4))) ((l1 + 2))) (((ma_u1 a ((t + 1)) (va_cpy (a ((l1 + 1))) (a ((t + 1))) 0 0 4))) ((t + 2))) 0 0 6))) ((t + 3))) 0 0 8))) ((l1 + 4))) (((ma_u1 ((ma_u1 ((ma_u1 a ((t + 1)) (va_cpy (a ((l1 + 1))) (a ((t + 1))) 0 0 4))) ((t + 2)) (va_cpy (((ma_u1 a ((t + 1)) (va_cpy (a ((l1 + 1))) (a ((t + 1))) 0 0 4))) ((l1 + 2))) (((ma_u1 a ((t + 1)) (va_cpy (a ((l1 + 1))) (a ((t + 1))) 0 0 4))) ((t + 2))) 0 0 6))) ((t + 3)) (va_cpy (((ma_u1 ((ma_u1 a ((t + 1)) (va_cpy (a ((l1 + 1))) (a ((t + 1))) 0 0 4))) ((t + 2)) (va_cpy (((ma_u1 a ((t + 1)) (va_cpy (a ((l1 + 1))) (a ((t + 1))) 0 0 4))) ((l1 + 2))) (((ma_u1 a ((t + 1)) (va_cpy (a ((l1 + 1))) (a ((t + 1))) 0 0 4))) ((t + 2))) 0 0 6))) ((l1 + 3))) (((ma_u1 ((ma_u1 a ((t + 1)) (va_cpy (a ((l1 + 1))) (a ((t + 1))) 0 0 4))) ((t + 2)) (va_cpy (((ma_u1 a ((t + 1)) (va_cpy (a ((l1 + 1))) (a ((t + 1))) 0 0 4))) ((l1 + 2))) (((ma_u1 a ((t + 1)) (va_cpy (a ((l1 + 1))) (a ((t + 1))) 0 0 4))) ((t + 2))) 0 0 6))) ((t + 3))) 0 0 8))) ((t + 4))) 0 0 8))) ((l1 + 5))) (((ma_u1 ((ma_u1 ((ma_u1 ((ma_u1 a ((t + 1)) (va_cpy (a ((l1 + 1))) (a ((t + 1))) 0 0 4))) ((t + 2)) (va_cpy (((ma_u1 a ((t + 1)) (va_cpy (a ((l1 + 1))) (a ((t + 1))) 0 0 4))) ((l1 + 2))) (((ma_u1 a ((t + 1)) (va_cpy (a ((l1 + 1))) (a ((t + 1))) 0 0 4))) ((t + 2))) 0 0 6))) ((t + 3)) (va_cpy (((ma_u1 ((ma_u1 a ((t + 1)) (va_cpy (a ((l1 + 1))) (a ((t + 1))) 0 0 4))) ((t + 2)) (va_cpy (((ma_u1 a ((t + 1)) (va_cpy (a ((l1 + 1))) (a ((t + 1))) 0 0 4))) ((l1 + 2))) (((ma_u1 a ((t + 1)) (va_cpy (a ((l1 + 1))) (a ((t + 1))) 0 0 4))) ((t + 2))) 0 0 6))) ((l1 + 3))) (((ma_u1 ((ma_u1 a ((t + 1)) (va_cpy (a ((l1 + 1))) (a ((t + 1))) 0 0 4))) ((t + 2)) (va_cpy (((ma_u1 a ((t + 1)) (va_cpy (a ((l1 + 1))) (a ((t + 1))) 0 0 4))) ((l1 + 2))) (((ma_u1 a ((t + 1)) (va_cpy (a ((l1 + 1))) (a ((t + 1))) 0 0 4))) ((t + 2))) 0 0 6))) ((t + 3))) 0 0 8))) ((t + 4)) (va_cpy (((ma_u1 ((ma_u1 ((ma_u1 a ((t + 1)) (va_cpy (a ((l1 + 1))) (a ((t + 1))) 0 0 4))) ((t + 2)) (va_cpy (((ma_u1 a ((t + 1)) (va_cpy (a ((l1 + 1))) (a ((t + 1))) 0 0 4))) ((l1 + 2))) (((ma_u1 a ((t + 1)) (va_cpy (a ((l1 + 1))) (a ((t + 1))) 0 0 4))) ((t + 2))) 0 0 6))) ((t + 3)) (va_cpy (((ma_u1 ((ma_u1 a ((t + 1)) (va_cpy (a ((l1 + 1))) (a ((t + 1))) 0 0 4))) ((t + 2)) (va_cpy (((ma_u1 a ((t + 1)) (va_cpy (a ((l1 + 1))) (a ((t + 1))) 0 0 4))) ((l1 + 2))) (((ma_u1 a ((t + 1)) (va_cpy (a ((l1 + 1))) (a ((t + 1))) 0 0 4))) ((t + 2))) 0 0 6))) ((l1 + 3))) (((ma_u1 ((ma_u1 a ((t + 1)) (va_cpy (a ((l1 + 1))) (a ((t + 1))) 0 0 4))) ((t + 2)) (va_cpy (((ma_u1 a ((t + 1)) (va_cpy (a ((l1 + 1))) (a ((t + 1))) 0 0 4))) ((l1 + 2))) (((ma_u1 a ((t + 1)) (va_cpy (a ((l1 + 1))) (a ((t + 1))) 0 0 4))) ((t + 2))) 0 0 6))) ((t + 3))) 0 0 8))) ((l1 + 4))) (((ma_u1 ((ma_u1 ((ma_u1 a ((t + 1)) (va_cpy (a ((l1 + 1))) (a ((t + 1))) 0 0 4))) ((t + 2)) (va_cpy (((ma_u1 a ((t + 1)) (va_cpy (a ((l1 + 1))) (a ((t + 1))) 0 0 4))) ((l1 + 2))) (((ma_u1 a ((t + 1)) (va_cpy (a ((l1 + 1))) (a ((t + 1))) 0 0 4))) ((t + 2))) 0 0 6))) ((t + 3)) (va_cpy (((ma_u1 ((ma_u1 a ((t + 1)) (va_cpy (a ((l1 + 1))) (a ((t + 1))) 0 0 4))) ((t + 2)) (va_cpy (((ma_u1 a ((t + 1)) (va_cpy (a ((l1 + 1))) (a ((t + 1))) 0 0 4))) ((l1 + 2))) (((ma_u1 a ((t + 1)) (va_cpy (a ((l1 + 1))) (a ((t + 1))) 0 0 4))) ((t + 2))) 0 0 6))) ((l1 + 3))) (((ma_u1 ((ma_u1 a ((t + 1)) (va_cpy (a ((l1 + 1))) (a ((t + 1))) 0 0 4))) ((t + 2)) (va_cpy (((ma_u1 a ((t + 1)) (va_cpy (a ((l1 + 1))) (a ((t + 1))) 0 0 4))) ((l1 + 2))) (((ma_u1 a ((t + 1)) (va_cpy (a ((l1 + 1))) (a ((t + 1))) 0 0 4))) ((t + 2))) 0 0 6))) ((t + 3))) 0 0 8))) ((t + 4))) 0 0 8))) ((t + 5))) 0 0 8))) ((t + 6))) 0 0 8))) ((t + 7))) 0 0 8))) g)) :=
  (r_ald (pg_of mt_33 dX4_become_0 rfl) rfl).trans <|
  (r_gtr (a := (l1 + 1)) (pg_of mt_33 dX4_become_1 rfl) (mw_tr hl1) (mw_tf hl1 (by decide))).trans <|
  (r_con (pg_of mt_33 dX4_become_4 rfl) (v2 := (0 : Int32)) (by decide)).trans <|
  (r_ald (pg_of mt_33 dX4_become_5 rfl) rfl).trans <|
  (r_gtr (a := (t + 1)) (pg_of mt_33 dX4_become_6 rfl) (mw_tr ht) (mw_tf ht (by decide))).trans <|
  (r_con (pg_of mt_33 dX4_become_9 rfl) (v2 := (0 : Int32)) (by decide)).trans <|
  (r_con (pg_of mt_33 dX4_become_10 rfl) (v2 := (4 : Int32)) (by decide)).trans <|
  (r_cpyc (k := 4) (pg_of mt_33 dX4_become_11 rfl) (Nat.le_of_ble_eq_true rfl) (mw_tr0 ht) (mw_tr0 hl1) (by decide) (by decide) ⟨Nat.le_of_ble_eq_true rfl, Nat.le_of_ble_eq_true rfl⟩).trans <|
  (r_ald (pg_of mt_33 dX4_become_14 rfl) rfl).trans <|
  (r_gtr (a := (l1 + 2)) (pg_of mt_33 dX4_become_15 rfl) (mw_tr hl1) (mw_tf hl1 (by decide))).trans <|
  (r_con (pg_of mt_33 dX4_become_18 rfl) (v2 := (0 : Int32)) (by decide)).trans <|
  (r_ald (pg_of mt_33 dX4_become_19 rfl) rfl).trans <|
  (r_gtr (a := (t + 2)) (pg_of mt_33 dX4_become_20 rfl) (mw_tr ht) (mw_tf ht (by decide))).trans <|
  (r_con (pg_of mt_33 dX4_become_23 rfl) (v2 := (0 : Int32)) (by decide)).trans <|
  (r_con (pg_of mt_33 dX4_become_24 rfl) (v2 := (6 : Int32)) (by decide)).trans <|
  (r_cpyc (k := 6) (pg_of mt_33 dX4_become_26 rfl) (Nat.le_of_ble_eq_true rfl) (mw_tr1 ht) (mw_tr1 hl1) (by decide) (by decide) ⟨Nat.le_of_ble_eq_true rfl, Nat.le_of_ble_eq_true rfl⟩).trans <|
  (r_ald (pg_of mt_33 dX4_become_29 rfl) rfl).trans <|
  (r_gtr (a := (l1 + 3)) (pg_of mt_33 dX4_become_30 rfl) (mw_tr hl1) (mw_tf hl1 (by decide))).trans <|
  (r_con (pg_of mt_33 dX4_become_33 rfl) (v2 := (0 : Int32)) (by decide)).trans <|
  (r_ald (pg_of mt_33 dX4_become_34 rfl) rfl).trans <|
  (r_gtr (a := (t + 3)) (pg_of mt_33 dX4_become_35 rfl) (mw_tr ht) (mw_tf ht (by decide))).trans <|
  (r_con (pg_of mt_33 dX4_become_38 rfl) (v2 := (0 : Int32)) (by decide)).trans <|
  (r_con (pg_of mt_33 dX4_become_39 rfl) (v2 := (8 : Int32)) (by decide)).trans <|
  (r_cpyc (k := 8) (pg_of mt_33 dX4_become_41 rfl) (Nat.le_of_ble_eq_true rfl) (mw_tr2 ht) (mw_tr2 hl1) (by decide) (by decide) ⟨Nat.le_of_ble_eq_true rfl, Nat.le_of_ble_eq_true rfl⟩).trans <|
  (r_ald (pg_of mt_33 dX4_become_44 rfl) rfl).trans <|
  (r_gtr (a := (l1 + 4)) (pg_of mt_33 dX4_become_45 rfl) (mw_tr hl1) (mw_tf hl1 (by decide))).trans <|
  (r_con (pg_of mt_33 dX4_become_48 rfl) (v2 := (0 : Int32)) (by decide)).trans <|
  (r_ald (pg_of mt_33 dX4_become_49 rfl) rfl).trans <|
  (r_gtr (a := (t + 4)) (pg_of mt_33 dX4_become_50 rfl) (mw_tr ht) (mw_tf ht (by decide))).trans <|
  (r_con (pg_of mt_33 dX4_become_53 rfl) (v2 := (0 : Int32)) (by decide)).trans <|
  (r_con (pg_of mt_33 dX4_become_54 rfl) (v2 := (8 : Int32)) (by decide)).trans <|
  (r_cpyc (k := 8) (pg_of mt_33 dX4_become_56 rfl) (Nat.le_of_ble_eq_true rfl) (mw_tr3 ht) (mw_tr3 hl1) (by decide) (by decide) ⟨Nat.le_of_ble_eq_true rfl, Nat.le_of_ble_eq_true rfl⟩).trans <|
  (r_ald (pg_of mt_33 dX4_become_59 rfl) rfl).trans <|
  (r_gtr (a := (l1 + 5)) (pg_of mt_33 dX4_become_60 rfl) (mw_tr hl1) (mw_tf hl1 (by decide))).trans <|
  (r_con (pg_of mt_33 dX4_become_63 rfl) (v2 := (0 : Int32)) (by decide)).trans <|
  (r_ald (pg_of mt_33 dX4_become_64 rfl) rfl).trans <|
  (r_gtr (a := (t + 5)) (pg_of mt_33 dX4_become_65 rfl) (mw_tr ht) (mw_tf ht (by decide))).trans <|
  (r_con (pg_of mt_33 dX4_become_68 rfl) (v2 := (0 : Int32)) (by decide)).trans <|
  (r_con (pg_of mt_33 dX4_become_69 rfl) (v2 := (8 : Int32)) (by decide)).trans <|
  (r_cpyc (k := 8) (pg_of mt_33 dX4_become_71 rfl) (Nat.le_of_ble_eq_true rfl) (mw_tr4 ht) (mw_tr4 hl1) (by decide) (by decide) ⟨Nat.le_of_ble_eq_true rfl, Nat.le_of_ble_eq_true rfl⟩).trans <|
  (r_ald (pg_of mt_33 dX4_become_74 rfl) rfl).trans <|
  (r_gtr (a := (l1 + 6)) (pg_of mt_33 dX4_become_75 rfl) (mw_tr hl1) (mw_tf hl1 (by decide))).trans <|
  (r_con (pg_of mt_33 dX4_become_78 rfl) (v2 := (0 : Int32)) (by decide)).trans <|
  (r_ald (pg_of mt_33 dX4_become_79 rfl) rfl).trans <|
  (r_gtr (a := (t + 6)) (pg_of mt_33 dX4_become_80 rfl) (mw_tr ht) (mw_tf ht (by decide))).trans <|
  (r_con (pg_of mt_33 dX4_become_83 rfl) (v2 := (0 : Int32)) (by decide)).trans <|
  (r_con (pg_of mt_33 dX4_become_84 rfl) (v2 := (8 : Int32)) (by decide)).trans <|
  (r_cpyc (k := 8) (pg_of mt_33 dX4_become_86 rfl) (Nat.le_of_ble_eq_true rfl) (mw_tr5 ht) (mw_tr5 hl1) (by decide) (by decide) ⟨Nat.le_of_ble_eq_true rfl, Nat.le_of_ble_eq_true rfl⟩).trans <|
  (r_ald (pg_of mt_33 dX4_become_89 rfl) rfl).trans <|
  (r_gtr (a := (l1 + 7)) (pg_of mt_33 dX4_become_90 rfl) (mw_tr hl1) (mw_tf hl1 (by decide))).trans <|
  (r_con (pg_of mt_33 dX4_become_93 rfl) (v2 := (0 : Int32)) (by decide)).trans <|
  (r_ald (pg_of mt_33 dX4_become_94 rfl) rfl).trans <|
  (r_gtr (a := (t + 7)) (pg_of mt_33 dX4_become_95 rfl) (mw_tr ht) (mw_tf ht (by decide))).trans <|
  (r_con (pg_of mt_33 dX4_become_98 rfl) (v2 := (0 : Int32)) (by decide)).trans <|
  (r_con (pg_of mt_33 dX4_become_99 rfl) (v2 := (8 : Int32)) (by decide)).trans <|
  (r_cpyc (k := 8) (pg_of mt_33 dX4_become_101 rfl) (Nat.le_of_ble_eq_true rfl) (mw_tr6 ht) (mw_tr6 hl1) (by decide) (by decide) ⟨Nat.le_of_ble_eq_true rfl, Nat.le_of_ble_eq_true rfl⟩).trans <|
  (r_ald (pg_of mt_33 dX4_become_104 rfl) rfl).trans <|
  (r_ald (pg_of mt_33 dX4_become_105 rfl) rfl).trans <|
  (r_gti (pg_of mt_33 dX4_become_106 rfl) (mw_tr hl1)).trans <|
  (r_pti (pg_of mt_33 dX4_become_109 rfl) (mw_tr ht) rfl).trans <|
  (r_ald (pg_of mt_33 dX4_become_112 rfl) rfl).trans <|
  (r_ald (pg_of mt_33 dX4_become_113 rfl) rfl).trans <|
  (r_gti (pg_of mt_33 dX4_become_114 rfl) (mw_tr hl1)).trans <|
  (r_pti (pg_of mt_33 dX4_become_117 rfl) (mw_tr ht) rfl).trans <|
  (r_ald (pg_of mt_33 dX4_become_120 rfl) rfl).trans <|
  (r_ald (pg_of mt_33 dX4_become_121 rfl) rfl).trans <|
  (r_gti (pg_of mt_33 dX4_become_122 rfl) (mw_tr hl1)).trans <|
  (r_pti (pg_of mt_33 dX4_become_125 rfl) (mw_tr ht) rfl).trans <|
  (r_ald (pg_of mt_33 dX4_become_128 rfl) rfl).trans <|
  (r_ald (pg_of mt_33 dX4_become_129 rfl) rfl).trans <|
  (r_gti (pg_of mt_33 dX4_become_130 rfl) (mw_tr hl1)).trans <|
  (r_pti (pg_of mt_33 dX4_become_133 rfl) (mw_tr ht) rfl).trans <|
  (r_ald (pg_of mt_33 dX4_become_136 rfl) rfl).trans <|
  (r_con (pg_of mt_33 dX4_become_137 rfl) (v2 := (0 : Int32)) (by decide)).trans <|
  (r_pti (pg_of mt_33 dX4_become_138 rfl) (mw_tr ht) rfl).trans <|
  (r_rv (pg_of mt_33 dX4_become_141 rfl) mt_33 rfl)
-- 34 LeafFalls$Tree.has(I)Z
theorem b34_0 (t : Nat) (l1 : Int32) (ht : is_tr t) : rn xs L 34 0 [vR t, vI l1] [] (mw f a g) = if l1 < 0 then rn xs L 34 16 [vR t, vI l1] [] (mw f a g) else rn xs L 34 4 [vR t, vI l1] [] (mw f a g) :=
  (r_ild (pg_of mt_34 dX4_has_0 rfl) rfl).trans <|
  (r_lt0 (pg_of mt_34 dX4_has_1 rfl))
theorem b34_4 (t : Nat) (l1 : Int32) (ht : is_tr t) : rn xs L 34 4 [vR t, vI l1] [] (mw f a g) = if l1 < (f t 7) then rn xs L 34 12 [vR t, vI l1] [] (mw f a g) else rn xs L 34 16 [vR t, vI l1] [] (mw f a g) :=
  (r_ild (pg_of mt_34 dX4_has_4 rfl) rfl).trans <|
  (r_ald (pg_of mt_34 dX4_has_5 rfl) rfl).trans <|
  (r_gti (pg_of mt_34 dX4_has_6 rfl) (mw_tr ht)).trans <|
  (r_ge (pg_of mt_34 dX4_has_9 rfl))
theorem b34_12 (t : Nat) (l1 : Int32) (ht : is_tr t) : rn xs L 34 12 [vR t, vI l1] [] (mw f a g) = some (some (vI (1 : Int32)), (mw f a g)) :=
  (r_con (pg_of mt_34 dX4_has_12 rfl) (v2 := (1 : Int32)) (by decide)).trans <|
  (r_gto (pg_of mt_34 dX4_has_13 rfl)).trans <|
  (r_rz (pg_of mt_34 dX4_has_17 rfl) mt_34 rfl (Or.inr rfl))
theorem b34_16 (t : Nat) (l1 : Int32) (ht : is_tr t) : rn xs L 34 16 [vR t, vI l1] [] (mw f a g) = some (some (vI (0 : Int32)), (mw f a g)) :=
  (r_con (pg_of mt_34 dX4_has_16 rfl) (v2 := (0 : Int32)) (by decide)).trans <|
  (r_rz (pg_of mt_34 dX4_has_17 rfl) mt_34 rfl (Or.inl rfl))
-- 35 LeafFalls$Tree.hangs(I)Z
theorem b35_0 (t : Nat) (l1 : Int32) (ht : is_tr t) (h1 : ma_in l1 8 = true) : rn xs L 35 0 [vR t, vI l1] [] (mw f a g) = if (a ((t + 7)) l1.toNatClampNeg) = 0 then rn xs L 35 9 [vR t, vI l1] [] (mw f a g) else rn xs L 35 13 [vR t, vI l1] [] (mw f a g) :=
  (r_ald (pg_of mt_35 dX4_hangs_0 rfl) rfl).trans <|
  (r_gtr (a := (t + 7)) (pg_of mt_35 dX4_hangs_1 rfl) (mw_tr ht) (mw_tf ht (by decide))).trans <|
  (r_ild (pg_of mt_35 dX4_hangs_4 rfl) rfl).trans <|
  (r_iald (pg_of mt_35 dX4_hangs_5 rfl) (mw_tr6 ht) h1).trans <|
  (r_ne0 (pg_of mt_35 dX4_hangs_6 rfl))
theorem b35_9 (t : Nat) (l1 : Int32) (ht : is_tr t) : rn xs L 35 9 [vR t, vI l1] [] (mw f a g) = some (some (vI (1 : Int32)), (mw f a g)) :=
  (r_con (pg_of mt_35 dX4_hangs_9 rfl) (v2 := (1 : Int32)) (by decide)).trans <|
  (r_gto (pg_of mt_35 dX4_hangs_10 rfl)).trans <|
  (r_rz (pg_of mt_35 dX4_hangs_14 rfl) mt_35 rfl (Or.inr rfl))
theorem b35_13 (t : Nat) (l1 : Int32) (ht : is_tr t) : rn xs L 35 13 [vR t, vI l1] [] (mw f a g) = some (some (vI (0 : Int32)), (mw f a g)) :=
  (r_con (pg_of mt_35 dX4_hangs_13 rfl) (v2 := (0 : Int32)) (by decide)).trans <|
  (r_rz (pg_of mt_35 dX4_hangs_14 rfl) mt_35 rfl (Or.inl rfl))
-- 36 LeafFalls$Tree.mates(I)I
theorem b36_0 (t : Nat) (l1 : Int32) (ht : is_tr t) (h1 : ma_in l1 8 = true) : rn xs L 36 0 [vR t, vI l1] [] (mw f a g) = (ev xs L 37 4 [vR t, vI (a ((t + 4)) l1.toNatClampNeg)] (mw f a g)).bind (fun b => rn xs L 36 10 [vR t, vI l1] (b.1.toList ++ []) b.2) :=
  (r_ald (pg_of mt_36 dX4_mates_0 rfl) rfl).trans <|
  (r_ald (pg_of mt_36 dX4_mates_1 rfl) rfl).trans <|
  (r_gtr (a := (t + 4)) (pg_of mt_36 dX4_mates_2 rfl) (mw_tr ht) (mw_tf ht (by decide))).trans <|
  (r_ild (pg_of mt_36 dX4_mates_5 rfl) rfl).trans <|
  (r_iald (pg_of mt_36 dX4_mates_6 rfl) (mw_tr3 ht) h1).trans <|
  (r_call (t := tt_36) (t2 := tt_37) (pg_of mt_36 dX4_mates_7 rfl) mt_36 mt_37 rfl rfl (rcv1 (mw_tr ht)) rfl rfl)
theorem b36_10 (t : Nat) (l1 : Int32) (s0 : Int32) (ht : is_tr t) : rn xs L 36 10 [vR t, vI l1] [vI s0] (mw f a g) = (ev xs L 232 1 [vI (s0 &&& (((1 : Int32) <<< (l1 &&& 31)) ^^^ (-1 : Int32)))] (mw f a g)).bind (fun b => rn xs L 36 19 [vR t, vI l1] (b.1.toList ++ []) b.2) :=
  (r_con (pg_of mt_36 dX4_mates_10 rfl) (v2 := (1 : Int32)) (by decide)).trans <|
  (r_ild (pg_of mt_36 dX4_mates_11 rfl) rfl).trans <|
  (r_bin (pg_of mt_36 dX4_mates_12 rfl)).trans <|
  (r_con (pg_of mt_36 dX4_mates_13 rfl) (v2 := (-1 : Int32)) (by decide)).trans <|
  (r_bin (pg_of mt_36 dX4_mates_14 rfl)).trans <|
  (r_bin (pg_of mt_36 dX4_mates_15 rfl)).trans <|
  (r_call (t := tt_36) (t2 := tt_232) (pg_of mt_36 dX4_mates_16 rfl) mt_36 mt_232 rfl rfl rfl rfl rfl)
theorem b36_19 (t : Nat) (l1 : Int32) (s0 : Int32) (ht : is_tr t) : rn xs L 36 19 [vR t, vI l1] [vI s0] (mw f a g) = some (some (vI s0), (mw f a g)) :=
  (r_ri (pg_of mt_36 dX4_mates_19 rfl) mt_36 rfl)
-- 37 LeafFalls$Tree.hangingOn(I)I
theorem b37_0 (t : Nat) (l1 : Int32) (l2 : ma_V) (l3 : ma_V) (ht : is_tr t) : rn xs L 37 0 [vR t, vI l1, l2, l3] [] (mw f a g) = rn xs L 37 4 [vR t, vI l1, vI (0 : Int32), vI (0 : Int32)] [] (mw f a g) :=
  (r_con (pg_of mt_37 dX4_hangingOn_0 rfl) (v2 := (0 : Int32)) (by decide)).trans <|
  (r_ist (pg_of mt_37 dX4_hangingOn_1 rfl) (Nat.le_of_ble_eq_true rfl) rfl).trans <|
  (r_con (pg_of mt_37 dX4_hangingOn_2 rfl) (v2 := (0 : Int32)) (by decide)).trans <|
  (r_ist (pg_of mt_37 dX4_hangingOn_3 rfl) (Nat.le_of_ble_eq_true rfl) rfl)
theorem b37_4 (t : Nat) (l1 : Int32) (l2 : Int32) (l3 : Int32) (ht : is_tr t) : rn xs L 37 4 [vR t, vI l1, vI l2, vI l3] [] (mw f a g) = if l3 < (f t 7) then rn xs L 37 12 [vR t, vI l1, vI l2, vI l3] [] (mw f a g) else rn xs L 37 42 [vR t, vI l1, vI l2, vI l3] [] (mw f a g) :=
  (r_ild (pg_of mt_37 dX4_hangingOn_4 rfl) rfl).trans <|
  (r_ald (pg_of mt_37 dX4_hangingOn_5 rfl) rfl).trans <|
  (r_gti (pg_of mt_37 dX4_hangingOn_6 rfl) (mw_tr ht)).trans <|
  (r_ge (pg_of mt_37 dX4_hangingOn_9 rfl))
theorem b37_12 (t : Nat) (l1 : Int32) (l2 : Int32) (l3 : Int32) (ht : is_tr t) : rn xs L 37 12 [vR t, vI l1, vI l2, vI l3] [] (mw f a g) = (ev xs L 35 2 [vR t, vI l3] (mw f a g)).bind (fun b => rn xs L 37 17 [vR t, vI l1, vI l2, vI l3] (b.1.toList ++ []) b.2) :=
  (r_ald (pg_of mt_37 dX4_hangingOn_12 rfl) rfl).trans <|
  (r_ild (pg_of mt_37 dX4_hangingOn_13 rfl) rfl).trans <|
  (r_call (t := tt_37) (t2 := tt_35) (pg_of mt_37 dX4_hangingOn_14 rfl) mt_37 mt_35 rfl rfl (rcv1 (mw_tr ht)) rfl rfl)
theorem b37_17 (t : Nat) (l1 : Int32) (l2 : Int32) (l3 : Int32) (s0 : Int32) (ht : is_tr t) : rn xs L 37 17 [vR t, vI l1, vI l2, vI l3] [vI s0] (mw f a g) = if s0 = 0 then rn xs L 37 36 [vR t, vI l1, vI l2, vI l3] [] (mw f a g) else rn xs L 37 20 [vR t, vI l1, vI l2, vI l3] [] (mw f a g) :=
  (r_eq0 (pg_of mt_37 dX4_hangingOn_17 rfl))
theorem b37_20 (t : Nat) (l1 : Int32) (l2 : Int32) (l3 : Int32) (ht : is_tr t) (h1 : ma_in l3 8 = true) : rn xs L 37 20 [vR t, vI l1, vI l2, vI l3] [] (mw f a g) = if (a ((t + 4)) l3.toNatClampNeg) = l1 then rn xs L 37 30 [vR t, vI l1, vI l2, vI l3] [] (mw f a g) else rn xs L 37 36 [vR t, vI l1, vI l2, vI l3] [] (mw f a g) :=
  (r_ald (pg_of mt_37 dX4_hangingOn_20 rfl) rfl).trans <|
  (r_gtr (a := (t + 4)) (pg_of mt_37 dX4_hangingOn_21 rfl) (mw_tr ht) (mw_tf ht (by decide))).trans <|
  (r_ild (pg_of mt_37 dX4_hangingOn_24 rfl) rfl).trans <|
  (r_iald (pg_of mt_37 dX4_hangingOn_25 rfl) (mw_tr3 ht) h1).trans <|
  (r_ild (pg_of mt_37 dX4_hangingOn_26 rfl) rfl).trans <|
  (r_ne (pg_of mt_37 dX4_hangingOn_27 rfl))
theorem b37_30 (t : Nat) (l1 : Int32) (l2 : Int32) (l3 : Int32) (ht : is_tr t) : rn xs L 37 30 [vR t, vI l1, vI l2, vI l3] [] (mw f a g) = rn xs L 37 4 [vR t, vI l1, vI (l2 ||| ((1 : Int32) <<< (l3 &&& 31))), vI (l3 + (1 : Int32))] [] (mw f a g) :=
  (r_ild (pg_of mt_37 dX4_hangingOn_30 rfl) rfl).trans <|
  (r_con (pg_of mt_37 dX4_hangingOn_31 rfl) (v2 := (1 : Int32)) (by decide)).trans <|
  (r_ild (pg_of mt_37 dX4_hangingOn_32 rfl) rfl).trans <|
  (r_bin (pg_of mt_37 dX4_hangingOn_33 rfl)).trans <|
  (r_bin (pg_of mt_37 dX4_hangingOn_34 rfl)).trans <|
  (r_ist (pg_of mt_37 dX4_hangingOn_35 rfl) (Nat.le_of_ble_eq_true rfl) rfl).trans <|
  (r_inc (pg_of mt_37 dX4_hangingOn_36 rfl) (y := (1 : Int32)) (by decide) rfl rfl).trans <|
  (r_gto (pg_of mt_37 dX4_hangingOn_39 rfl))
theorem b37_36 (t : Nat) (l1 : Int32) (l2 : Int32) (l3 : Int32) (ht : is_tr t) : rn xs L 37 36 [vR t, vI l1, vI l2, vI l3] [] (mw f a g) = rn xs L 37 4 [vR t, vI l1, vI l2, vI (l3 + (1 : Int32))] [] (mw f a g) :=
  (r_inc (pg_of mt_37 dX4_hangingOn_36 rfl) (y := (1 : Int32)) (by decide) rfl rfl).trans <|
  (r_gto (pg_of mt_37 dX4_hangingOn_39 rfl))
theorem b37_42 (t : Nat) (l1 : Int32) (l2 : Int32) (l3 : Int32) (ht : is_tr t) : rn xs L 37 42 [vR t, vI l1, vI l2, vI l3] [] (mw f a g) = some (some (vI l2), (mw f a g)) :=
  (r_ild (pg_of mt_37 dX4_hangingOn_42 rfl) rfl).trans <|
  (r_ri (pg_of mt_37 dX4_hangingOn_43 rfl) mt_37 rfl)
-- 38 LeafFalls$Tree.loses(I)I
theorem sw38_27 {ls st : List ma_V} {w : ma_W} {x : Int32} : rn xs L 38 27 ls (vI x :: st) w = if x = 1 then rn xs L 38 60 ls st w else if x = 2 then rn xs L 38 80 ls st w else if x = 3 then rn xs L 38 69 ls st w else if x = 4 then rn xs L 38 88 ls st w else if x = 5 then rn xs L 38 116 ls st w else rn xs L 38 131 ls st w := by
  by_cases h0 : x = 1
  · rw [if_pos h0, h0]; exact r_swi (t := 60) (pg_of mt_38 dX4_loses_27 rfl) (by decide)
  rw [if_neg h0]
  by_cases h1 : x = 2
  · rw [if_pos h1, h1]; exact r_swi (t := 80) (pg_of mt_38 dX4_loses_27 rfl) (by decide)
  rw [if_neg h1]
  by_cases h2 : x = 3
  · rw [if_pos h2, h2]; exact r_swi (t := 69) (pg_of mt_38 dX4_loses_27 rfl) (by decide)
  rw [if_neg h2]
  by_cases h3 : x = 4
  · rw [if_pos h3, h3]; exact r_swi (t := 88) (pg_of mt_38 dX4_loses_27 rfl) (by decide)
  rw [if_neg h3]
  by_cases h4 : x = 5
  · rw [if_pos h4, h4]; exact r_swi (t := 116) (pg_of mt_38 dX4_loses_27 rfl) (by decide)
  rw [if_neg h4]
  have e0 := i_nei (k := 1) (1 : Int32) (by decide) h0
  have e1 := i_nei (k := 2) (2 : Int32) (by decide) h1
  have e2 := i_nei (k := 3) (3 : Int32) (by decide) h2
  have e3 := i_nei (k := 4) (4 : Int32) (by decide) h3
  have e4 := i_nei (k := 5) (5 : Int32) (by decide) h4
  exact r_swi (t := 131) (pg_of mt_38 dX4_loses_27 rfl) (tsw_out (by omega) (by decide) (by decide))
theorem b38_0 (t : Nat) (l1 : Int32) (l2 : ma_V) (ht : is_tr t) (h1 : ma_in l1 8 = true) (h2 : ma_in ((a ((t + 4)) l1.toNatClampNeg)) 6 = true) (h3 : ma_in l1 8 = true) : rn xs L 38 0 [vR t, vI l1, l2] [] (mw f a g) = if (a ((t + 3)) l1.toNatClampNeg) = 1 then rn xs L 38 60 [vR t, vI l1, vI (((1 : Int32) + (a ((t + 1)) 0)) + (a ((t + 2)) ((a ((t + 4)) l1.toNatClampNeg)).toNatClampNeg))] [] (mw f a g) else if (a ((t + 3)) l1.toNatClampNeg) = 2 then rn xs L 38 80 [vR t, vI l1, vI (((1 : Int32) + (a ((t + 1)) 0)) + (a ((t + 2)) ((a ((t + 4)) l1.toNatClampNeg)).toNatClampNeg))] [] (mw f a g) else if (a ((t + 3)) l1.toNatClampNeg) = 3 then rn xs L 38 69 [vR t, vI l1, vI (((1 : Int32) + (a ((t + 1)) 0)) + (a ((t + 2)) ((a ((t + 4)) l1.toNatClampNeg)).toNatClampNeg))] [] (mw f a g) else if (a ((t + 3)) l1.toNatClampNeg) = 4 then rn xs L 38 88 [vR t, vI l1, vI (((1 : Int32) + (a ((t + 1)) 0)) + (a ((t + 2)) ((a ((t + 4)) l1.toNatClampNeg)).toNatClampNeg))] [] (mw f a g) else if (a ((t + 3)) l1.toNatClampNeg) = 5 then rn xs L 38 116 [vR t, vI l1, vI (((1 : Int32) + (a ((t + 1)) 0)) + (a ((t + 2)) ((a ((t + 4)) l1.toNatClampNeg)).toNatClampNeg))] [] (mw f a g) else rn xs L 38 131 [vR t, vI l1, vI (((1 : Int32) + (a ((t + 1)) 0)) + (a ((t + 2)) ((a ((t + 4)) l1.toNatClampNeg)).toNatClampNeg))] [] (mw f a g) :=
  (r_con (pg_of mt_38 dX4_loses_0 rfl) (v2 := (1 : Int32)) (by decide)).trans <|
  (r_ald (pg_of mt_38 dX4_loses_1 rfl) rfl).trans <|
  (r_gtr (a := (t + 1)) (pg_of mt_38 dX4_loses_2 rfl) (mw_tr ht) (mw_tf ht (by decide))).trans <|
  (r_con (pg_of mt_38 dX4_loses_5 rfl) (v2 := (0 : Int32)) (by decide)).trans <|
  (r_ialc (j := 0) (pg_of mt_38 dX4_loses_6 rfl) (mw_tr0 ht) (by decide) (by decide)).trans <|
  (r_bin (pg_of mt_38 dX4_loses_7 rfl)).trans <|
  (r_ald (pg_of mt_38 dX4_loses_8 rfl) rfl).trans <|
  (r_gtr (a := (t + 2)) (pg_of mt_38 dX4_loses_9 rfl) (mw_tr ht) (mw_tf ht (by decide))).trans <|
  (r_ald (pg_of mt_38 dX4_loses_12 rfl) rfl).trans <|
  (r_gtr (a := (t + 4)) (pg_of mt_38 dX4_loses_13 rfl) (mw_tr ht) (mw_tf ht (by decide))).trans <|
  (r_ild (pg_of mt_38 dX4_loses_16 rfl) rfl).trans <|
  (r_iald (pg_of mt_38 dX4_loses_17 rfl) (mw_tr3 ht) h1).trans <|
  (r_iald (pg_of mt_38 dX4_loses_18 rfl) (mw_tr1 ht) h2).trans <|
  (r_bin (pg_of mt_38 dX4_loses_19 rfl)).trans <|
  (r_ist (pg_of mt_38 dX4_loses_20 rfl) (Nat.le_of_ble_eq_true rfl) rfl).trans <|
  (r_ald (pg_of mt_38 dX4_loses_21 rfl) rfl).trans <|
  (r_gtr (a := (t + 3)) (pg_of mt_38 dX4_loses_22 rfl) (mw_tr ht) (mw_tf ht (by decide))).trans <|
  (r_ild (pg_of mt_38 dX4_loses_25 rfl) rfl).trans <|
  (r_iald (pg_of mt_38 dX4_loses_26 rfl) (mw_tr2 ht) h3).trans <|
  (sw38_27)
theorem b38_60 (t : Nat) (l1 : Int32) (l2 : Int32) (ht : is_tr t) : rn xs L 38 60 [vR t, vI l1, vI l2] [] (mw f a g) = some (some (vI (l2 + (a ((t + 1)) 1))), (mw f a g)) :=
  (r_ild (pg_of mt_38 dX4_loses_60 rfl) rfl).trans <|
  (r_ald (pg_of mt_38 dX4_loses_61 rfl) rfl).trans <|
  (r_gtr (a := (t + 1)) (pg_of mt_38 dX4_loses_62 rfl) (mw_tr ht) (mw_tf ht (by decide))).trans <|
  (r_con (pg_of mt_38 dX4_loses_65 rfl) (v2 := (1 : Int32)) (by decide)).trans <|
  (r_ialc (j := 1) (pg_of mt_38 dX4_loses_66 rfl) (mw_tr0 ht) (by decide) (by decide)).trans <|
  (r_bin (pg_of mt_38 dX4_loses_67 rfl)).trans <|
  (r_ri (pg_of mt_38 dX4_loses_68 rfl) mt_38 rfl)
theorem b38_69 (t : Nat) (l1 : Int32) (l2 : Int32) (ht : is_tr t) : rn xs L 38 69 [vR t, vI l1, vI l2] [] (mw f a g) = some (some (vI ((2 : Int32) * (l2 + (a ((t + 1)) 1)))), (mw f a g)) :=
  (r_con (pg_of mt_38 dX4_loses_69 rfl) (v2 := (2 : Int32)) (by decide)).trans <|
  (r_ild (pg_of mt_38 dX4_loses_70 rfl) rfl).trans <|
  (r_ald (pg_of mt_38 dX4_loses_71 rfl) rfl).trans <|
  (r_gtr (a := (t + 1)) (pg_of mt_38 dX4_loses_72 rfl) (mw_tr ht) (mw_tf ht (by decide))).trans <|
  (r_con (pg_of mt_38 dX4_loses_75 rfl) (v2 := (1 : Int32)) (by decide)).trans <|
  (r_ialc (j := 1) (pg_of mt_38 dX4_loses_76 rfl) (mw_tr0 ht) (by decide) (by decide)).trans <|
  (r_bin (pg_of mt_38 dX4_loses_77 rfl)).trans <|
  (r_bin (pg_of mt_38 dX4_loses_78 rfl)).trans <|
  (r_ri (pg_of mt_38 dX4_loses_79 rfl) mt_38 rfl)
theorem b38_80 (t : Nat) (l1 : Int32) (l2 : Int32) (ht : is_tr t) : rn xs L 38 80 [vR t, vI l1, vI l2] [] (mw f a g) = (ev xs L 36 2 [vR t, vI l1] (mw f a g)).bind (fun b => rn xs L 38 86 [vR t, vI l1, vI l2] (b.1.toList ++ [vI l2]) b.2) :=
  (r_ild (pg_of mt_38 dX4_loses_80 rfl) rfl).trans <|
  (r_ald (pg_of mt_38 dX4_loses_81 rfl) rfl).trans <|
  (r_ild (pg_of mt_38 dX4_loses_82 rfl) rfl).trans <|
  (r_call (t := tt_38) (t2 := tt_36) (pg_of mt_38 dX4_loses_83 rfl) mt_38 mt_36 rfl rfl (rcv1 (mw_tr ht)) rfl rfl)
theorem b38_86 (t : Nat) (l1 : Int32) (l2 : Int32) (s0 : Int32) (s1 : Int32) (ht : is_tr t) : rn xs L 38 86 [vR t, vI l1, vI l2] [vI s0, vI s1] (mw f a g) = some (some (vI (s1 - s0)), (mw f a g)) :=
  (r_bin (pg_of mt_38 dX4_loses_86 rfl)).trans <|
  (r_ri (pg_of mt_38 dX4_loses_87 rfl) mt_38 rfl)
theorem b38_88 (t : Nat) (l1 : Int32) (l2 : Int32) (ht : is_tr t) : rn xs L 38 88 [vR t, vI l1, vI l2] [] (mw f a g) = (ev xs L 36 2 [vR t, vI l1] (mw f a g)).bind (fun b => rn xs L 38 94 [vR t, vI l1, vI l2] (b.1.toList ++ [vI l2]) b.2) :=
  (r_ild (pg_of mt_38 dX4_loses_88 rfl) rfl).trans <|
  (r_ald (pg_of mt_38 dX4_loses_89 rfl) rfl).trans <|
  (r_ild (pg_of mt_38 dX4_loses_90 rfl) rfl).trans <|
  (r_call (t := tt_38) (t2 := tt_36) (pg_of mt_38 dX4_loses_91 rfl) mt_38 mt_36 rfl rfl (rcv1 (mw_tr ht)) rfl rfl)
theorem b38_94 (t : Nat) (l1 : Int32) (l2 : Int32) (s0 : Int32) (s1 : Int32) (ht : is_tr t) : rn xs L 38 94 [vR t, vI l1, vI l2] [vI s0, vI s1] (mw f a g) = if ((f t 9) - (f t 9) / (2 : Int32) * (2 : Int32)) = 0 then rn xs L 38 104 [vR t, vI l1, vI l2] [vI (s1 - s0)] (mw f a g) else rn xs L 38 113 [vR t, vI l1, vI l2] [vI (s1 - s0)] (mw f a g) :=
  (r_bin (pg_of mt_38 dX4_loses_94 rfl)).trans <|
  (r_ald (pg_of mt_38 dX4_loses_95 rfl) rfl).trans <|
  (r_gti (pg_of mt_38 dX4_loses_96 rfl) (mw_tr ht)).trans <|
  (r_con (pg_of mt_38 dX4_loses_99 rfl) (v2 := (2 : Int32)) (by decide)).trans <|
  (r_dvi (pg_of mt_38 dX4_loses_100 rfl) (by decide)).trans <|
  (r_ne0 (pg_of mt_38 dX4_loses_101 rfl))
theorem b38_104 (t : Nat) (l1 : Int32) (l2 : Int32) (s0 : Int32) (ht : is_tr t) : rn xs L 38 104 [vR t, vI l1, vI l2] [vI s0] (mw f a g) = some (some (vI (s0 + (a ((t + 1)) 2))), (mw f a g)) :=
  (r_ald (pg_of mt_38 dX4_loses_104 rfl) rfl).trans <|
  (r_gtr (a := (t + 1)) (pg_of mt_38 dX4_loses_105 rfl) (mw_tr ht) (mw_tf ht (by decide))).trans <|
  (r_con (pg_of mt_38 dX4_loses_108 rfl) (v2 := (2 : Int32)) (by decide)).trans <|
  (r_ialc (j := 2) (pg_of mt_38 dX4_loses_109 rfl) (mw_tr0 ht) (by decide) (by decide)).trans <|
  (r_gto (pg_of mt_38 dX4_loses_110 rfl)).trans <|
  (r_bin (pg_of mt_38 dX4_loses_114 rfl)).trans <|
  (r_ri (pg_of mt_38 dX4_loses_115 rfl) mt_38 rfl)
theorem b38_113 (t : Nat) (l1 : Int32) (l2 : Int32) (s0 : Int32) (ht : is_tr t) : rn xs L 38 113 [vR t, vI l1, vI l2] [vI s0] (mw f a g) = some (some (vI (s0 + (0 : Int32))), (mw f a g)) :=
  (r_con (pg_of mt_38 dX4_loses_113 rfl) (v2 := (0 : Int32)) (by decide)).trans <|
  (r_bin (pg_of mt_38 dX4_loses_114 rfl)).trans <|
  (r_ri (pg_of mt_38 dX4_loses_115 rfl) mt_38 rfl)
theorem b38_116 (t : Nat) (l1 : Int32) (l2 : Int32) (ht : is_tr t) : rn xs L 38 116 [vR t, vI l1, vI l2] [] (mw f a g) = if ((f t 9) - (f t 9) / (5 : Int32) * (5 : Int32)) = 0 then rn xs L 38 125 [vR t, vI l1, vI l2] [] (mw f a g) else rn xs L 38 129 [vR t, vI l1, vI l2] [] (mw f a g) :=
  (r_ald (pg_of mt_38 dX4_loses_116 rfl) rfl).trans <|
  (r_gti (pg_of mt_38 dX4_loses_117 rfl) (mw_tr ht)).trans <|
  (r_con (pg_of mt_38 dX4_loses_120 rfl) (v2 := (5 : Int32)) (by decide)).trans <|
  (r_dvi (pg_of mt_38 dX4_loses_121 rfl) (by decide)).trans <|
  (r_ne0 (pg_of mt_38 dX4_loses_122 rfl))
theorem b38_125 (t : Nat) (l1 : Int32) (l2 : Int32) (ht : is_tr t) : rn xs L 38 125 [vR t, vI l1, vI l2] [] (mw f a g) = some (some (vI l2), (mw f a g)) :=
  (r_ild (pg_of mt_38 dX4_loses_125 rfl) rfl).trans <|
  (r_gto (pg_of mt_38 dX4_loses_126 rfl)).trans <|
  (r_ri (pg_of mt_38 dX4_loses_130 rfl) mt_38 rfl)
theorem b38_129 (t : Nat) (l1 : Int32) (l2 : Int32) (ht : is_tr t) : rn xs L 38 129 [vR t, vI l1, vI l2] [] (mw f a g) = some (some (vI (0 : Int32)), (mw f a g)) :=
  (r_con (pg_of mt_38 dX4_loses_129 rfl) (v2 := (0 : Int32)) (by decide)).trans <|
  (r_ri (pg_of mt_38 dX4_loses_130 rfl) mt_38 rfl)
theorem b38_131 (t : Nat) (l1 : Int32) (l2 : Int32) (ht : is_tr t) : rn xs L 38 131 [vR t, vI l1, vI l2] [] (mw f a g) = some (some (vI l2), (mw f a g)) :=
  (r_ild (pg_of mt_38 dX4_loses_131 rfl) rfl).trans <|
  (r_ri (pg_of mt_38 dX4_loses_132 rfl) mt_38 rfl)
-- 39 LeafFalls$Tree.rank(I)I
theorem sw39_13 {ls st : List ma_V} {w : ma_W} {x : Int32} : rn xs L 39 13 ls (vI x :: st) w = if x = 1 then rn xs L 39 48 ls st w else if x = 2 then rn xs L 39 63 ls st w else if x = 3 then rn xs L 39 52 ls st w else if x = 4 then rn xs L 39 68 ls st w else if x = 5 then rn xs L 39 75 ls st w else rn xs L 39 78 ls st w := by
  by_cases h0 : x = 1
  · rw [if_pos h0, h0]; exact r_swi (t := 48) (pg_of mt_39 dX4_rank_13 rfl) (by decide)
  rw [if_neg h0]
  by_cases h1 : x = 2
  · rw [if_pos h1, h1]; exact r_swi (t := 63) (pg_of mt_39 dX4_rank_13 rfl) (by decide)
  rw [if_neg h1]
  by_cases h2 : x = 3
  · rw [if_pos h2, h2]; exact r_swi (t := 52) (pg_of mt_39 dX4_rank_13 rfl) (by decide)
  rw [if_neg h2]
  by_cases h3 : x = 4
  · rw [if_pos h3, h3]; exact r_swi (t := 68) (pg_of mt_39 dX4_rank_13 rfl) (by decide)
  rw [if_neg h3]
  by_cases h4 : x = 5
  · rw [if_pos h4, h4]; exact r_swi (t := 75) (pg_of mt_39 dX4_rank_13 rfl) (by decide)
  rw [if_neg h4]
  have e0 := i_nei (k := 1) (1 : Int32) (by decide) h0
  have e1 := i_nei (k := 2) (2 : Int32) (by decide) h1
  have e2 := i_nei (k := 3) (3 : Int32) (by decide) h2
  have e3 := i_nei (k := 4) (4 : Int32) (by decide) h3
  have e4 := i_nei (k := 5) (5 : Int32) (by decide) h4
  exact r_swi (t := 78) (pg_of mt_39 dX4_rank_13 rfl) (tsw_out (by omega) (by decide) (by decide))
theorem b39_0 (t : Nat) (l1 : Int32) (l2 : ma_V) (ht : is_tr t) (h1 : ma_in l1 8 = true) (h2 : ma_in l1 8 = true) : rn xs L 39 0 [vR t, vI l1, l2] [] (mw f a g) = if (a ((t + 3)) l1.toNatClampNeg) = 1 then rn xs L 39 48 [vR t, vI l1, vI (a ((t + 6)) l1.toNatClampNeg)] [] (mw f a g) else if (a ((t + 3)) l1.toNatClampNeg) = 2 then rn xs L 39 63 [vR t, vI l1, vI (a ((t + 6)) l1.toNatClampNeg)] [] (mw f a g) else if (a ((t + 3)) l1.toNatClampNeg) = 3 then rn xs L 39 52 [vR t, vI l1, vI (a ((t + 6)) l1.toNatClampNeg)] [] (mw f a g) else if (a ((t + 3)) l1.toNatClampNeg) = 4 then rn xs L 39 68 [vR t, vI l1, vI (a ((t + 6)) l1.toNatClampNeg)] [] (mw f a g) else if (a ((t + 3)) l1.toNatClampNeg) = 5 then rn xs L 39 75 [vR t, vI l1, vI (a ((t + 6)) l1.toNatClampNeg)] [] (mw f a g) else rn xs L 39 78 [vR t, vI l1, vI (a ((t + 6)) l1.toNatClampNeg)] [] (mw f a g) :=
  (r_ald (pg_of mt_39 dX4_rank_0 rfl) rfl).trans <|
  (r_gtr (a := (t + 6)) (pg_of mt_39 dX4_rank_1 rfl) (mw_tr ht) (mw_tf ht (by decide))).trans <|
  (r_ild (pg_of mt_39 dX4_rank_4 rfl) rfl).trans <|
  (r_iald (pg_of mt_39 dX4_rank_5 rfl) (mw_tr5 ht) h1).trans <|
  (r_ist (pg_of mt_39 dX4_rank_6 rfl) (Nat.le_of_ble_eq_true rfl) rfl).trans <|
  (r_ald (pg_of mt_39 dX4_rank_7 rfl) rfl).trans <|
  (r_gtr (a := (t + 3)) (pg_of mt_39 dX4_rank_8 rfl) (mw_tr ht) (mw_tf ht (by decide))).trans <|
  (r_ild (pg_of mt_39 dX4_rank_11 rfl) rfl).trans <|
  (r_iald (pg_of mt_39 dX4_rank_12 rfl) (mw_tr2 ht) h2).trans <|
  (sw39_13)
theorem b39_48 (t : Nat) (l1 : Int32) (l2 : Int32) (ht : is_tr t) : rn xs L 39 48 [vR t, vI l1, vI l2] [] (mw f a g) = some (some (vI (l2 + (3 : Int32))), (mw f a g)) :=
  (r_ild (pg_of mt_39 dX4_rank_48 rfl) rfl).trans <|
  (r_con (pg_of mt_39 dX4_rank_49 rfl) (v2 := (3 : Int32)) (by decide)).trans <|
  (r_bin (pg_of mt_39 dX4_rank_50 rfl)).trans <|
  (r_ri (pg_of mt_39 dX4_rank_51 rfl) mt_39 rfl)
theorem b39_52 (t : Nat) (l1 : Int32) (l2 : Int32) (ht : is_tr t) (h1 : ma_in l1 8 = true) : rn xs L 39 52 [vR t, vI l1, vI l2] [] (mw f a g) = some (some (vI ((l2 + (3 : Int32)) + (a ((t + 4)) l1.toNatClampNeg))), (mw f a g)) :=
  (r_ild (pg_of mt_39 dX4_rank_52 rfl) rfl).trans <|
  (r_con (pg_of mt_39 dX4_rank_53 rfl) (v2 := (3 : Int32)) (by decide)).trans <|
  (r_bin (pg_of mt_39 dX4_rank_54 rfl)).trans <|
  (r_ald (pg_of mt_39 dX4_rank_55 rfl) rfl).trans <|
  (r_gtr (a := (t + 4)) (pg_of mt_39 dX4_rank_56 rfl) (mw_tr ht) (mw_tf ht (by decide))).trans <|
  (r_ild (pg_of mt_39 dX4_rank_59 rfl) rfl).trans <|
  (r_iald (pg_of mt_39 dX4_rank_60 rfl) (mw_tr3 ht) h1).trans <|
  (r_bin (pg_of mt_39 dX4_rank_61 rfl)).trans <|
  (r_ri (pg_of mt_39 dX4_rank_62 rfl) mt_39 rfl)
theorem b39_63 (t : Nat) (l1 : Int32) (l2 : Int32) (ht : is_tr t) : rn xs L 39 63 [vR t, vI l1, vI l2] [] (mw f a g) = some (some (vI ((10 : Int32) - l2)), (mw f a g)) :=
  (r_con (pg_of mt_39 dX4_rank_63 rfl) (v2 := (10 : Int32)) (by decide)).trans <|
  (r_ild (pg_of mt_39 dX4_rank_65 rfl) rfl).trans <|
  (r_bin (pg_of mt_39 dX4_rank_66 rfl)).trans <|
  (r_ri (pg_of mt_39 dX4_rank_67 rfl) mt_39 rfl)
theorem b39_68 (t : Nat) (l1 : Int32) (l2 : Int32) (ht : is_tr t) : rn xs L 39 68 [vR t, vI l1, vI l2] [] (mw f a g) = some (some (vI ((2 : Int32) * ((10 : Int32) - l2))), (mw f a g)) :=
  (r_con (pg_of mt_39 dX4_rank_68 rfl) (v2 := (2 : Int32)) (by decide)).trans <|
  (r_con (pg_of mt_39 dX4_rank_69 rfl) (v2 := (10 : Int32)) (by decide)).trans <|
  (r_ild (pg_of mt_39 dX4_rank_71 rfl) rfl).trans <|
  (r_bin (pg_of mt_39 dX4_rank_72 rfl)).trans <|
  (r_bin (pg_of mt_39 dX4_rank_73 rfl)).trans <|
  (r_ri (pg_of mt_39 dX4_rank_74 rfl) mt_39 rfl)
theorem b39_75 (t : Nat) (l1 : Int32) (l2 : Int32) (ht : is_tr t) : rn xs L 39 75 [vR t, vI l1, vI l2] [] (mw f a g) = some (some (vI (-l2)), (mw f a g)) :=
  (r_ild (pg_of mt_39 dX4_rank_75 rfl) rfl).trans <|
  (r_una (pg_of mt_39 dX4_rank_76 rfl)).trans <|
  (r_ri (pg_of mt_39 dX4_rank_77 rfl) mt_39 rfl)
theorem b39_78 (t : Nat) (l1 : Int32) (l2 : Int32) (ht : is_tr t) : rn xs L 39 78 [vR t, vI l1, vI l2] [] (mw f a g) = some (some (vI l2), (mw f a g)) :=
  (r_ild (pg_of mt_39 dX4_rank_78 rfl) rfl).trans <|
  (r_ri (pg_of mt_39 dX4_rank_79 rfl) mt_39 rfl)
-- 40 LeafFalls$Tree.fell(I)V
theorem b40_0 (t : Nat) (l1 : Int32) (ht : is_tr t) (h1 : ma_in l1 8 = true) : rn xs L 40 0 [vR t, vI l1] [] (mw f a g) = some (none, (mw ((ma_u2 f t 8 (((f t 8) + (1 : Int32))))) ((ma_u2 a ((t + 7)) l1.toNatClampNeg ((((ma_u2 f t 8 (((f t 8) + (1 : Int32))))) t 8)))) g)) :=
  (r_ald (pg_of mt_40 dX4_fell_0 rfl) rfl).trans <|
  (r_dup (pg_of mt_40 dX4_fell_1 rfl) rfl).trans <|
  (r_gti (pg_of mt_40 dX4_fell_2 rfl) (mw_tr ht)).trans <|
  (r_con (pg_of mt_40 dX4_fell_5 rfl) (v2 := (1 : Int32)) (by decide)).trans <|
  (r_bin (pg_of mt_40 dX4_fell_6 rfl)).trans <|
  (r_pti (pg_of mt_40 dX4_fell_7 rfl) (mw_tr ht) rfl).trans <|
  (r_ald (pg_of mt_40 dX4_fell_10 rfl) rfl).trans <|
  (r_gtr (a := (t + 7)) (pg_of mt_40 dX4_fell_11 rfl) (mw_tr ht) (mw_tf ht (by decide))).trans <|
  (r_ild (pg_of mt_40 dX4_fell_14 rfl) rfl).trans <|
  (r_ald (pg_of mt_40 dX4_fell_15 rfl) rfl).trans <|
  (r_gti (pg_of mt_40 dX4_fell_16 rfl) (mw_tr ht)).trans <|
  (r_iast (pg_of mt_40 dX4_fell_19 rfl) (mw_tr6 ht) h1).trans <|
  (r_rv (pg_of mt_40 dX4_fell_20 rfl) mt_40 rfl)
-- 41 LeafFalls$Tree.hanging()I
theorem b41_0 (t : Nat) (ht : is_tr t) : rn xs L 41 0 [vR t] [] (mw f a g) = some (some (vI ((f t 7) - (f t 8))), (mw f a g)) :=
  (r_ald (pg_of mt_41 dX4_hanging_0 rfl) rfl).trans <|
  (r_gti (pg_of mt_41 dX4_hanging_1 rfl) (mw_tr ht)).trans <|
  (r_ald (pg_of mt_41 dX4_hanging_4 rfl) rfl).trans <|
  (r_gti (pg_of mt_41 dX4_hanging_5 rfl) (mw_tr ht)).trans <|
  (r_bin (pg_of mt_41 dX4_hanging_8 rfl)).trans <|
  (r_ri (pg_of mt_41 dX4_hanging_9 rfl) mt_41 rfl)
-- 42 LeafFalls$Tree.passDay()I
theorem b42_0 (t : Nat) (l1 : ma_V) (ht : is_tr t) : rn xs L 42 0 [vR t, l1] [] (mw f a g) = rn xs L 42 2 [vR t, vI (0 : Int32)] [] (mw f a g) :=
  (r_con (pg_of mt_42 dX4_passDay_0 rfl) (v2 := (0 : Int32)) (by decide)).trans <|
  (r_ist (pg_of mt_42 dX4_passDay_1 rfl) (Nat.le_of_ble_eq_true rfl) rfl)
theorem b42_2 (t : Nat) (l1 : Int32) (ht : is_tr t) : rn xs L 42 2 [vR t, vI l1] [] (mw f a g) = if l1 < (f t 7) then rn xs L 42 10 [vR t, vI l1] [] (mw f a g) else rn xs L 42 53 [vR t, vI l1] [] (mw f a g) :=
  (r_ild (pg_of mt_42 dX4_passDay_2 rfl) rfl).trans <|
  (r_ald (pg_of mt_42 dX4_passDay_3 rfl) rfl).trans <|
  (r_gti (pg_of mt_42 dX4_passDay_4 rfl) (mw_tr ht)).trans <|
  (r_ge (pg_of mt_42 dX4_passDay_7 rfl))
theorem b42_10 (t : Nat) (l1 : Int32) (ht : is_tr t) : rn xs L 42 10 [vR t, vI l1] [] (mw f a g) = (ev xs L 35 2 [vR t, vI l1] (mw f a g)).bind (fun b => rn xs L 42 15 [vR t, vI l1] (b.1.toList ++ []) b.2) :=
  (r_ald (pg_of mt_42 dX4_passDay_10 rfl) rfl).trans <|
  (r_ild (pg_of mt_42 dX4_passDay_11 rfl) rfl).trans <|
  (r_call (t := tt_42) (t2 := tt_35) (pg_of mt_42 dX4_passDay_12 rfl) mt_42 mt_35 rfl rfl (rcv1 (mw_tr ht)) rfl rfl)
theorem b42_15 (t : Nat) (l1 : Int32) (s0 : Int32) (ht : is_tr t) : rn xs L 42 15 [vR t, vI l1] [vI s0] (mw f a g) = if s0 = 0 then rn xs L 42 47 [vR t, vI l1] [] (mw f a g) else rn xs L 42 18 [vR t, vI l1] [] (mw f a g) :=
  (r_eq0 (pg_of mt_42 dX4_passDay_15 rfl))
theorem b42_18 (t : Nat) (l1 : Int32) (ht : is_tr t) : rn xs L 42 18 [vR t, vI l1] [] (mw f a g) = (ev xs L 43 2 [vR t, vI l1] (mw f a g)).bind (fun b => rn xs L 42 23 [vR t, vI l1] (b.1.toList ++ []) b.2) :=
  (r_ald (pg_of mt_42 dX4_passDay_18 rfl) rfl).trans <|
  (r_ild (pg_of mt_42 dX4_passDay_19 rfl) rfl).trans <|
  (r_call (t := tt_42) (t2 := tt_43) (pg_of mt_42 dX4_passDay_20 rfl) mt_42 mt_43 rfl rfl (rcv1 (mw_tr ht)) rfl rfl)
theorem b42_23 (t : Nat) (l1 : Int32) (s0 : Int32) (ht : is_tr t) : rn xs L 42 23 [vR t, vI l1] [vI s0] (mw f a g) = if s0 = 0 then rn xs L 42 26 [vR t, vI l1] [] (mw f a g) else rn xs L 42 47 [vR t, vI l1] [] (mw f a g) :=
  (r_ne0 (pg_of mt_42 dX4_passDay_23 rfl))
theorem b42_26 (t : Nat) (l1 : Int32) (ht : is_tr t) (h1 : ma_in l1 8 = true) : rn xs L 42 26 [vR t, vI l1] [] (mw f a g) = (ev xs L 38 3 [vR t, vI l1] (mw f a g)).bind (fun b => rn xs L 42 42 [vR t, vI l1] (b.1.toList ++ [vI (a ((t + 5)) l1.toNatClampNeg), vI l1, vR (t + 5)]) b.2) :=
  (r_ald (pg_of mt_42 dX4_passDay_26 rfl) rfl).trans <|
  (r_gtr (a := (t + 5)) (pg_of mt_42 dX4_passDay_27 rfl) (mw_tr ht) (mw_tf ht (by decide))).trans <|
  (r_ild (pg_of mt_42 dX4_passDay_30 rfl) rfl).trans <|
  (r_ald (pg_of mt_42 dX4_passDay_31 rfl) rfl).trans <|
  (r_gtr (a := (t + 5)) (pg_of mt_42 dX4_passDay_32 rfl) (mw_tr ht) (mw_tf ht (by decide))).trans <|
  (r_ild (pg_of mt_42 dX4_passDay_35 rfl) rfl).trans <|
  (r_iald (pg_of mt_42 dX4_passDay_36 rfl) (mw_tr4 ht) h1).trans <|
  (r_ald (pg_of mt_42 dX4_passDay_37 rfl) rfl).trans <|
  (r_ild (pg_of mt_42 dX4_passDay_38 rfl) rfl).trans <|
  (r_call (t := tt_42) (t2 := tt_38) (pg_of mt_42 dX4_passDay_39 rfl) mt_42 mt_38 rfl rfl (rcv1 (mw_tr ht)) rfl rfl)
theorem b42_42 (t : Nat) (l1 : Int32) (s0 : Int32) (s1 : Int32) (s2 : Int32) (ht : is_tr t) : rn xs L 42 42 [vR t, vI l1] [vI s0, vI s1, vI s2, vR (t + 5)] (mw f a g) = (ev xs L 71 1 [vI (s1 - s0)] (mw f a g)).bind (fun b => rn xs L 42 46 [vR t, vI l1] (b.1.toList ++ [vI s2, vR (t + 5)]) b.2) :=
  (r_bin (pg_of mt_42 dX4_passDay_42 rfl)).trans <|
  (r_call (t := tt_42) (t2 := tt_71) (pg_of mt_42 dX4_passDay_43 rfl) mt_42 mt_71 rfl rfl rfl rfl rfl)
theorem b42_46 (t : Nat) (l1 : Int32) (s0 : Int32) (s1 : Int32) (ht : is_tr t) (h1 : ma_in s1 8 = true) : rn xs L 42 46 [vR t, vI l1] [vI s0, vI s1, vR (t + 5)] (mw f a g) = rn xs L 42 2 [vR t, vI (l1 + (1 : Int32))] [] (mw f ((ma_u2 a ((t + 5)) s1.toNatClampNeg s0)) g) :=
  (r_iast (pg_of mt_42 dX4_passDay_46 rfl) (mw_tr4 ht) h1).trans <|
  (r_inc (pg_of mt_42 dX4_passDay_47 rfl) (y := (1 : Int32)) (by decide) rfl rfl).trans <|
  (r_gto (pg_of mt_42 dX4_passDay_50 rfl))
theorem b42_47 (t : Nat) (l1 : Int32) (ht : is_tr t) : rn xs L 42 47 [vR t, vI l1] [] (mw f a g) = rn xs L 42 2 [vR t, vI (l1 + (1 : Int32))] [] (mw f a g) :=
  (r_inc (pg_of mt_42 dX4_passDay_47 rfl) (y := (1 : Int32)) (by decide) rfl rfl).trans <|
  (r_gto (pg_of mt_42 dX4_passDay_50 rfl))
theorem b42_53 (t : Nat) (l1 : Int32) (ht : is_tr t) : rn xs L 42 53 [vR t, vI l1] [] (mw f a g) = (ev xs L 44 3 [vR t] (mw f a g)).bind (fun b => rn xs L 42 57 [vR t, vI l1] (b.1.toList ++ []) b.2) :=
  (r_ald (pg_of mt_42 dX4_passDay_53 rfl) rfl).trans <|
  (r_call (t := tt_42) (t2 := tt_44) (pg_of mt_42 dX4_passDay_54 rfl) mt_42 mt_44 rfl rfl (rcv1 (mw_tr ht)) rfl rfl)
theorem b42_57 (t : Nat) (l1 : Int32) (s0 : Int32) (ht : is_tr t) : rn xs L 42 57 [vR t, vI l1] [vI s0] (mw f a g) = if s0 < 0 then rn xs L 42 67 [vR t, vI s0] [] (mw f a g) else rn xs L 42 62 [vR t, vI s0] [] (mw f a g) :=
  (r_ist (pg_of mt_42 dX4_passDay_57 rfl) (Nat.le_of_ble_eq_true rfl) rfl).trans <|
  (r_ild (pg_of mt_42 dX4_passDay_58 rfl) rfl).trans <|
  (r_lt0 (pg_of mt_42 dX4_passDay_59 rfl))
theorem b42_62 (t : Nat) (l1 : Int32) (ht : is_tr t) : rn xs L 42 62 [vR t, vI l1] [] (mw f a g) = (ev xs L 40 2 [vR t, vI l1] (mw f a g)).bind (fun b => rn xs L 42 67 [vR t, vI l1] (b.1.toList ++ []) b.2) :=
  (r_ald (pg_of mt_42 dX4_passDay_62 rfl) rfl).trans <|
  (r_ild (pg_of mt_42 dX4_passDay_63 rfl) rfl).trans <|
  (r_call (t := tt_42) (t2 := tt_40) (pg_of mt_42 dX4_passDay_64 rfl) mt_42 mt_40 rfl rfl (rcv1 (mw_tr ht)) rfl rfl)
theorem b42_67 (t : Nat) (l1 : Int32) (ht : is_tr t) : rn xs L 42 67 [vR t, vI l1] [] (mw f a g) = some (some (vI l1), (mw ((ma_u2 f t 9 (((f t 9) + (1 : Int32))))) a g)) :=
  (r_ald (pg_of mt_42 dX4_passDay_67 rfl) rfl).trans <|
  (r_dup (pg_of mt_42 dX4_passDay_68 rfl) rfl).trans <|
  (r_gti (pg_of mt_42 dX4_passDay_69 rfl) (mw_tr ht)).trans <|
  (r_con (pg_of mt_42 dX4_passDay_72 rfl) (v2 := (1 : Int32)) (by decide)).trans <|
  (r_bin (pg_of mt_42 dX4_passDay_73 rfl)).trans <|
  (r_pti (pg_of mt_42 dX4_passDay_74 rfl) (mw_tr ht) rfl).trans <|
  (r_ild (pg_of mt_42 dX4_passDay_77 rfl) rfl).trans <|
  (r_ri (pg_of mt_42 dX4_passDay_78 rfl) mt_42 rfl)
-- 43 LeafFalls$Tree.isTied(I)Z
theorem b43_0 (t : Nat) (l1 : Int32) (ht : is_tr t) : rn xs L 43 0 [vR t, vI l1] [] (mw f a g) = if (((f t 11) >>> (l1 &&& 31)) &&& (1 : Int32)) = 0 then rn xs L 43 15 [vR t, vI l1] [] (mw f a g) else rn xs L 43 11 [vR t, vI l1] [] (mw f a g) :=
  (r_ald (pg_of mt_43 dX4_isTied_0 rfl) rfl).trans <|
  (r_gti (pg_of mt_43 dX4_isTied_1 rfl) (mw_tr ht)).trans <|
  (r_ild (pg_of mt_43 dX4_isTied_4 rfl) rfl).trans <|
  (r_bin (pg_of mt_43 dX4_isTied_5 rfl)).trans <|
  (r_con (pg_of mt_43 dX4_isTied_6 rfl) (v2 := (1 : Int32)) (by decide)).trans <|
  (r_bin (pg_of mt_43 dX4_isTied_7 rfl)).trans <|
  (r_eq0 (pg_of mt_43 dX4_isTied_8 rfl))
theorem b43_11 (t : Nat) (l1 : Int32) (ht : is_tr t) : rn xs L 43 11 [vR t, vI l1] [] (mw f a g) = some (some (vI (1 : Int32)), (mw f a g)) :=
  (r_con (pg_of mt_43 dX4_isTied_11 rfl) (v2 := (1 : Int32)) (by decide)).trans <|
  (r_gto (pg_of mt_43 dX4_isTied_12 rfl)).trans <|
  (r_rz (pg_of mt_43 dX4_isTied_16 rfl) mt_43 rfl (Or.inr rfl))
theorem b43_15 (t : Nat) (l1 : Int32) (ht : is_tr t) : rn xs L 43 15 [vR t, vI l1] [] (mw f a g) = some (some (vI (0 : Int32)), (mw f a g)) :=
  (r_con (pg_of mt_43 dX4_isTied_15 rfl) (v2 := (0 : Int32)) (by decide)).trans <|
  (r_rz (pg_of mt_43 dX4_isTied_16 rfl) mt_43 rfl (Or.inl rfl))
-- 44 LeafFalls$Tree.faller()I
theorem b44_0 (t : Nat) (l1 : ma_V) (l2 : ma_V) (ht : is_tr t) : rn xs L 44 0 [vR t, l1, l2] [] (mw f a g) = rn xs L 44 4 [vR t, vI (-1 : Int32), vI (0 : Int32)] [] (mw f a g) :=
  (r_con (pg_of mt_44 dX4_faller_0 rfl) (v2 := (-1 : Int32)) (by decide)).trans <|
  (r_ist (pg_of mt_44 dX4_faller_1 rfl) (Nat.le_of_ble_eq_true rfl) rfl).trans <|
  (r_con (pg_of mt_44 dX4_faller_2 rfl) (v2 := (0 : Int32)) (by decide)).trans <|
  (r_ist (pg_of mt_44 dX4_faller_3 rfl) (Nat.le_of_ble_eq_true rfl) rfl)
theorem b44_4 (t : Nat) (l1 : Int32) (l2 : Int32) (ht : is_tr t) : rn xs L 44 4 [vR t, vI l1, vI l2] [] (mw f a g) = if l2 < (f t 7) then rn xs L 44 12 [vR t, vI l1, vI l2] [] (mw f a g) else rn xs L 44 62 [vR t, vI l1, vI l2] [] (mw f a g) :=
  (r_ild (pg_of mt_44 dX4_faller_4 rfl) rfl).trans <|
  (r_ald (pg_of mt_44 dX4_faller_5 rfl) rfl).trans <|
  (r_gti (pg_of mt_44 dX4_faller_6 rfl) (mw_tr ht)).trans <|
  (r_ge (pg_of mt_44 dX4_faller_9 rfl))
theorem b44_12 (t : Nat) (l1 : Int32) (l2 : Int32) (ht : is_tr t) : rn xs L 44 12 [vR t, vI l1, vI l2] [] (mw f a g) = (ev xs L 35 2 [vR t, vI l2] (mw f a g)).bind (fun b => rn xs L 44 17 [vR t, vI l1, vI l2] (b.1.toList ++ []) b.2) :=
  (r_ald (pg_of mt_44 dX4_faller_12 rfl) rfl).trans <|
  (r_ild (pg_of mt_44 dX4_faller_13 rfl) rfl).trans <|
  (r_call (t := tt_44) (t2 := tt_35) (pg_of mt_44 dX4_faller_14 rfl) mt_44 mt_35 rfl rfl (rcv1 (mw_tr ht)) rfl rfl)
theorem b44_17 (t : Nat) (l1 : Int32) (l2 : Int32) (s0 : Int32) (ht : is_tr t) : rn xs L 44 17 [vR t, vI l1, vI l2] [vI s0] (mw f a g) = if s0 = 0 then rn xs L 44 56 [vR t, vI l1, vI l2] [] (mw f a g) else rn xs L 44 20 [vR t, vI l1, vI l2] [] (mw f a g) :=
  (r_eq0 (pg_of mt_44 dX4_faller_17 rfl))
theorem b44_20 (t : Nat) (l1 : Int32) (l2 : Int32) (ht : is_tr t) (h1 : ma_in l2 8 = true) : rn xs L 44 20 [vR t, vI l1, vI l2] [] (mw f a g) = if (a ((t + 5)) l2.toNatClampNeg) = 0 then rn xs L 44 29 [vR t, vI l1, vI l2] [] (mw f a g) else rn xs L 44 56 [vR t, vI l1, vI l2] [] (mw f a g) :=
  (r_ald (pg_of mt_44 dX4_faller_20 rfl) rfl).trans <|
  (r_gtr (a := (t + 5)) (pg_of mt_44 dX4_faller_21 rfl) (mw_tr ht) (mw_tf ht (by decide))).trans <|
  (r_ild (pg_of mt_44 dX4_faller_24 rfl) rfl).trans <|
  (r_iald (pg_of mt_44 dX4_faller_25 rfl) (mw_tr4 ht) h1).trans <|
  (r_ne0 (pg_of mt_44 dX4_faller_26 rfl))
theorem b44_29 (t : Nat) (l1 : Int32) (l2 : Int32) (ht : is_tr t) : rn xs L 44 29 [vR t, vI l1, vI l2] [] (mw f a g) = (ev xs L 43 2 [vR t, vI l2] (mw f a g)).bind (fun b => rn xs L 44 34 [vR t, vI l1, vI l2] (b.1.toList ++ []) b.2) :=
  (r_ald (pg_of mt_44 dX4_faller_29 rfl) rfl).trans <|
  (r_ild (pg_of mt_44 dX4_faller_30 rfl) rfl).trans <|
  (r_call (t := tt_44) (t2 := tt_43) (pg_of mt_44 dX4_faller_31 rfl) mt_44 mt_43 rfl rfl (rcv1 (mw_tr ht)) rfl rfl)
theorem b44_34 (t : Nat) (l1 : Int32) (l2 : Int32) (s0 : Int32) (ht : is_tr t) : rn xs L 44 34 [vR t, vI l1, vI l2] [vI s0] (mw f a g) = if s0 = 0 then rn xs L 44 37 [vR t, vI l1, vI l2] [] (mw f a g) else rn xs L 44 56 [vR t, vI l1, vI l2] [] (mw f a g) :=
  (r_ne0 (pg_of mt_44 dX4_faller_34 rfl))
theorem b44_37 (t : Nat) (l1 : Int32) (l2 : Int32) (ht : is_tr t) : rn xs L 44 37 [vR t, vI l1, vI l2] [] (mw f a g) = if l1 < 0 then rn xs L 44 54 [vR t, vI l1, vI l2] [] (mw f a g) else rn xs L 44 41 [vR t, vI l1, vI l2] [] (mw f a g) :=
  (r_ild (pg_of mt_44 dX4_faller_37 rfl) rfl).trans <|
  (r_lt0 (pg_of mt_44 dX4_faller_38 rfl))
theorem b44_41 (t : Nat) (l1 : Int32) (l2 : Int32) (ht : is_tr t) : rn xs L 44 41 [vR t, vI l1, vI l2] [] (mw f a g) = (ev xs L 39 3 [vR t, vI l2] (mw f a g)).bind (fun b => rn xs L 44 46 [vR t, vI l1, vI l2] (b.1.toList ++ []) b.2) :=
  (r_ald (pg_of mt_44 dX4_faller_41 rfl) rfl).trans <|
  (r_ild (pg_of mt_44 dX4_faller_42 rfl) rfl).trans <|
  (r_call (t := tt_44) (t2 := tt_39) (pg_of mt_44 dX4_faller_43 rfl) mt_44 mt_39 rfl rfl (rcv1 (mw_tr ht)) rfl rfl)
theorem b44_46 (t : Nat) (l1 : Int32) (l2 : Int32) (s0 : Int32) (ht : is_tr t) : rn xs L 44 46 [vR t, vI l1, vI l2] [vI s0] (mw f a g) = (ev xs L 39 3 [vR t, vI l1] (mw f a g)).bind (fun b => rn xs L 44 51 [vR t, vI l1, vI l2] (b.1.toList ++ [vI s0]) b.2) :=
  (r_ald (pg_of mt_44 dX4_faller_46 rfl) rfl).trans <|
  (r_ild (pg_of mt_44 dX4_faller_47 rfl) rfl).trans <|
  (r_call (t := tt_44) (t2 := tt_39) (pg_of mt_44 dX4_faller_48 rfl) mt_44 mt_39 rfl rfl (rcv1 (mw_tr ht)) rfl rfl)
theorem b44_51 (t : Nat) (l1 : Int32) (l2 : Int32) (s0 : Int32) (s1 : Int32) (ht : is_tr t) : rn xs L 44 51 [vR t, vI l1, vI l2] [vI s0, vI s1] (mw f a g) = if s0 < s1 then rn xs L 44 54 [vR t, vI l1, vI l2] [] (mw f a g) else rn xs L 44 56 [vR t, vI l1, vI l2] [] (mw f a g) :=
  (r_le (pg_of mt_44 dX4_faller_51 rfl))
theorem b44_54 (t : Nat) (l1 : Int32) (l2 : Int32) (ht : is_tr t) : rn xs L 44 54 [vR t, vI l1, vI l2] [] (mw f a g) = rn xs L 44 4 [vR t, vI l2, vI (l2 + (1 : Int32))] [] (mw f a g) :=
  (r_ild (pg_of mt_44 dX4_faller_54 rfl) rfl).trans <|
  (r_ist (pg_of mt_44 dX4_faller_55 rfl) (Nat.le_of_ble_eq_true rfl) rfl).trans <|
  (r_inc (pg_of mt_44 dX4_faller_56 rfl) (y := (1 : Int32)) (by decide) rfl rfl).trans <|
  (r_gto (pg_of mt_44 dX4_faller_59 rfl))
theorem b44_56 (t : Nat) (l1 : Int32) (l2 : Int32) (ht : is_tr t) : rn xs L 44 56 [vR t, vI l1, vI l2] [] (mw f a g) = rn xs L 44 4 [vR t, vI l1, vI (l2 + (1 : Int32))] [] (mw f a g) :=
  (r_inc (pg_of mt_44 dX4_faller_56 rfl) (y := (1 : Int32)) (by decide) rfl rfl).trans <|
  (r_gto (pg_of mt_44 dX4_faller_59 rfl))
theorem b44_62 (t : Nat) (l1 : Int32) (l2 : Int32) (ht : is_tr t) : rn xs L 44 62 [vR t, vI l1, vI l2] [] (mw f a g) = some (some (vI l1), (mw f a g)) :=
  (r_ild (pg_of mt_44 dX4_faller_62 rfl) rfl).trans <|
  (r_ri (pg_of mt_44 dX4_faller_63 rfl) mt_44 rfl)
-- 45 LeafFalls$Tree.passDayByDraws()I
theorem b45_0 (t : Nat) (l1 : ma_V) (ht : is_tr t) : rn xs L 45 0 [vR t, l1] [] (mw f a g) = if 0 < (f t 7) then rn xs L 45 7 [vR t, l1] [] (mw f a g) else rn xs L 45 43 [vR t, l1] [] (mw f a g) :=
  (r_ald (pg_of mt_45 dX4_passDayByDraws_0 rfl) rfl).trans <|
  (r_gti (pg_of mt_45 dX4_passDayByDraws_1 rfl) (mw_tr ht)).trans <|
  (r_le0 (pg_of mt_45 dX4_passDayByDraws_4 rfl))
theorem b45_7 (t : Nat) (l1 : ma_V) (ht : is_tr t) : rn xs L 45 7 [vR t, l1] [] (mw f a g) = (ev xs L 46 1 [vR t] (mw f a g)).bind (fun b => rn xs L 45 11 [vR t, l1] (b.1.toList ++ []) b.2) :=
  (r_ald (pg_of mt_45 dX4_passDayByDraws_7 rfl) rfl).trans <|
  (r_call (t := tt_45) (t2 := tt_46) (pg_of mt_45 dX4_passDayByDraws_8 rfl) mt_45 mt_46 rfl rfl (rcv1 (mw_tr ht)) rfl rfl)
theorem b45_11 (t : Nat) (l1 : ma_V) (s0 : Int32) (ht : is_tr t) (h1 : ¬ (f t 7) = 0) : rn xs L 45 11 [vR t, l1] [vI s0] (mw f a g) = (ev xs L 46 1 [vR t] (mw f a g)).bind (fun b => rn xs L 45 21 [vR t, vI (s0 - s0 / (f t 7) * (f t 7))] (b.1.toList ++ []) b.2) :=
  (r_ald (pg_of mt_45 dX4_passDayByDraws_11 rfl) rfl).trans <|
  (r_gti (pg_of mt_45 dX4_passDayByDraws_12 rfl) (mw_tr ht)).trans <|
  (r_dvi (pg_of mt_45 dX4_passDayByDraws_15 rfl) h1).trans <|
  (r_ist (pg_of mt_45 dX4_passDayByDraws_16 rfl) (Nat.le_of_ble_eq_true rfl) rfl).trans <|
  (r_ald (pg_of mt_45 dX4_passDayByDraws_17 rfl) rfl).trans <|
  (r_call (t := tt_45) (t2 := tt_46) (pg_of mt_45 dX4_passDayByDraws_18 rfl) mt_45 mt_46 rfl rfl (rcv1 (mw_tr ht)) rfl rfl)
theorem b45_21 (t : Nat) (l1 : Int32) (s0 : Int32) (ht : is_tr t) : rn xs L 45 21 [vR t, vI l1] [vI s0] (mw f a g) = if (s0 - s0 / (100 : Int32) * (100 : Int32)) < (a ((t + 1)) 3) then rn xs L 45 33 [vR t, vI l1] [] (mw f a g) else rn xs L 45 43 [vR t, vI l1] [] (mw f a g) :=
  (r_con (pg_of mt_45 dX4_passDayByDraws_21 rfl) (v2 := (100 : Int32)) (by decide)).trans <|
  (r_dvi (pg_of mt_45 dX4_passDayByDraws_23 rfl) (by decide)).trans <|
  (r_ald (pg_of mt_45 dX4_passDayByDraws_24 rfl) rfl).trans <|
  (r_gtr (a := (t + 1)) (pg_of mt_45 dX4_passDayByDraws_25 rfl) (mw_tr ht) (mw_tf ht (by decide))).trans <|
  (r_con (pg_of mt_45 dX4_passDayByDraws_28 rfl) (v2 := (3 : Int32)) (by decide)).trans <|
  (r_ialc (j := 3) (pg_of mt_45 dX4_passDayByDraws_29 rfl) (mw_tr0 ht) (by decide) (by decide)).trans <|
  (r_ge (pg_of mt_45 dX4_passDayByDraws_30 rfl))
theorem b45_33 (t : Nat) (l1 : Int32) (ht : is_tr t) (h1 : ma_in l1 8 = true) (h2 : ma_in l1 8 = true) : rn xs L 45 33 [vR t, vI l1] [] (mw f a g) = (ev xs L 42 2 [vR t] (mw f ((ma_u2 a ((t + 5)) l1.toNatClampNeg (((a ((t + 5)) l1.toNatClampNeg) / (3 : Int32))))) g)).bind (fun b => rn xs L 45 47 [vR t, vI l1] (b.1.toList ++ []) b.2) :=
  (r_ald (pg_of mt_45 dX4_passDayByDraws_33 rfl) rfl).trans <|
  (r_gtr (a := (t + 5)) (pg_of mt_45 dX4_passDayByDraws_34 rfl) (mw_tr ht) (mw_tf ht (by decide))).trans <|
  (r_ild (pg_of mt_45 dX4_passDayByDraws_37 rfl) rfl).trans <|
  (r_du2 (pg_of mt_45 dX4_passDayByDraws_38 rfl) rfl).trans <|
  (r_iald (pg_of mt_45 dX4_passDayByDraws_39 rfl) (mw_tr4 ht) h1).trans <|
  (r_con (pg_of mt_45 dX4_passDayByDraws_40 rfl) (v2 := (3 : Int32)) (by decide)).trans <|
  (r_dvi (pg_of mt_45 dX4_passDayByDraws_41 rfl) (by decide)).trans <|
  (r_iast (pg_of mt_45 dX4_passDayByDraws_42 rfl) (mw_tr4 ht) h2).trans <|
  (r_ald (pg_of mt_45 dX4_passDayByDraws_43 rfl) rfl).trans <|
  (r_call (t := tt_45) (t2 := tt_42) (pg_of mt_45 dX4_passDayByDraws_44 rfl) mt_45 mt_42 rfl rfl (rcv1 (mw_tr ht)) rfl rfl)
theorem b45_43 (t : Nat) (l1 : ma_V) (ht : is_tr t) : rn xs L 45 43 [vR t, l1] [] (mw f a g) = (ev xs L 42 2 [vR t] (mw f a g)).bind (fun b => rn xs L 45 47 [vR t, l1] (b.1.toList ++ []) b.2) :=
  (r_ald (pg_of mt_45 dX4_passDayByDraws_43 rfl) rfl).trans <|
  (r_call (t := tt_45) (t2 := tt_42) (pg_of mt_45 dX4_passDayByDraws_44 rfl) mt_45 mt_42 rfl rfl (rcv1 (mw_tr ht)) rfl rfl)
theorem b45_47 (t : Nat) (l1 : ma_V) (s0 : Int32) (ht : is_tr t) : rn xs L 45 47 [vR t, l1] [vI s0] (mw f a g) = some (some (vI s0), (mw f a g)) :=
  (r_ri (pg_of mt_45 dX4_passDayByDraws_47 rfl) mt_45 rfl)
-- 46 LeafFalls$Tree.drawn()I
theorem b46_0 (t : Nat) (ht : is_tr t) : rn xs L 46 0 [vR t] [] (mw f a g) = some (some (vI ((((((ma_u2 f t 10 ((((f t 10) * (1103515245 : Int32)) + (12345 : Int32))))) t 10)).toUInt32 >>> (((16 : Int32)).toUInt32 &&& Int32.toUInt32 31)).toInt32)), (mw ((ma_u2 f t 10 ((((f t 10) * (1103515245 : Int32)) + (12345 : Int32))))) a g)) :=
  (r_ald (pg_of mt_46 dX4_drawn_0 rfl) rfl).trans <|
  (r_ald (pg_of mt_46 dX4_drawn_1 rfl) rfl).trans <|
  (r_gti (pg_of mt_46 dX4_drawn_2 rfl) (mw_tr ht)).trans <|
  (r_con (pg_of mt_46 dX4_drawn_5 rfl) (v2 := (1103515245 : Int32)) rfl).trans <|
  (r_bin (pg_of mt_46 dX4_drawn_7 rfl)).trans <|
  (r_con (pg_of mt_46 dX4_drawn_8 rfl) (v2 := (12345 : Int32)) (by decide)).trans <|
  (r_bin (pg_of mt_46 dX4_drawn_11 rfl)).trans <|
  (r_pti (pg_of mt_46 dX4_drawn_12 rfl) (mw_tr ht) rfl).trans <|
  (r_ald (pg_of mt_46 dX4_drawn_15 rfl) rfl).trans <|
  (r_gti (pg_of mt_46 dX4_drawn_16 rfl) (mw_tr ht)).trans <|
  (r_con (pg_of mt_46 dX4_drawn_19 rfl) (v2 := (16 : Int32)) (by decide)).trans <|
  (r_bin (pg_of mt_46 dX4_drawn_21 rfl)).trans <|
  (r_ri (pg_of mt_46 dX4_drawn_22 rfl) mt_46 rfl)
-- 47 LeafFalls$Tree.signWritten(I)I
theorem b47_0 (t : Nat) (l1 : Int32) (l2 : ma_V) (ht : is_tr t) : rn xs L 47 0 [vR t, vI l1, l2] [] (mw f a g) = rn xs L 47 2 [vR t, vI l1, vI (0 : Int32)] [] (mw f a g) :=
  (r_con (pg_of mt_47 dX4_signWritten_0 rfl) (v2 := (0 : Int32)) (by decide)).trans <|
  (r_ist (pg_of mt_47 dX4_signWritten_1 rfl) (Nat.le_of_ble_eq_true rfl) rfl)
theorem b47_2 (t : Nat) (l1 : Int32) (l2 : Int32) (ht : is_tr t) : rn xs L 47 2 [vR t, vI l1, vI l2] [] (mw f a g) = if l2 < (f t 7) then rn xs L 47 10 [vR t, vI l1, vI l2] [] (mw f a g) else rn xs L 47 35 [vR t, vI l1, vI l2] [] (mw f a g) :=
  (r_ild (pg_of mt_47 dX4_signWritten_2 rfl) rfl).trans <|
  (r_ald (pg_of mt_47 dX4_signWritten_3 rfl) rfl).trans <|
  (r_gti (pg_of mt_47 dX4_signWritten_4 rfl) (mw_tr ht)).trans <|
  (r_ge (pg_of mt_47 dX4_signWritten_7 rfl))
theorem b47_10 (t : Nat) (l1 : Int32) (l2 : Int32) (ht : is_tr t) (h1 : ma_in l2 8 = true) : rn xs L 47 10 [vR t, vI l1, vI l2] [] (mw f a g) = if (a ((t + 7)) l2.toNatClampNeg) = (l1 + (1 : Int32)) then rn xs L 47 22 [vR t, vI l1, vI l2] [] (mw f a g) else rn xs L 47 29 [vR t, vI l1, vI l2] [] (mw f a g) :=
  (r_ald (pg_of mt_47 dX4_signWritten_10 rfl) rfl).trans <|
  (r_gtr (a := (t + 7)) (pg_of mt_47 dX4_signWritten_11 rfl) (mw_tr ht) (mw_tf ht (by decide))).trans <|
  (r_ild (pg_of mt_47 dX4_signWritten_14 rfl) rfl).trans <|
  (r_iald (pg_of mt_47 dX4_signWritten_15 rfl) (mw_tr6 ht) h1).trans <|
  (r_ild (pg_of mt_47 dX4_signWritten_16 rfl) rfl).trans <|
  (r_con (pg_of mt_47 dX4_signWritten_17 rfl) (v2 := (1 : Int32)) (by decide)).trans <|
  (r_bin (pg_of mt_47 dX4_signWritten_18 rfl)).trans <|
  (r_ne (pg_of mt_47 dX4_signWritten_19 rfl))
theorem b47_22 (t : Nat) (l1 : Int32) (l2 : Int32) (ht : is_tr t) (h1 : ma_in l2 8 = true) : rn xs L 47 22 [vR t, vI l1, vI l2] [] (mw f a g) = some (some (vI (a ((t + 6)) l2.toNatClampNeg)), (mw f a g)) :=
  (r_ald (pg_of mt_47 dX4_signWritten_22 rfl) rfl).trans <|
  (r_gtr (a := (t + 6)) (pg_of mt_47 dX4_signWritten_23 rfl) (mw_tr ht) (mw_tf ht (by decide))).trans <|
  (r_ild (pg_of mt_47 dX4_signWritten_26 rfl) rfl).trans <|
  (r_iald (pg_of mt_47 dX4_signWritten_27 rfl) (mw_tr5 ht) h1).trans <|
  (r_ri (pg_of mt_47 dX4_signWritten_28 rfl) mt_47 rfl)
theorem b47_29 (t : Nat) (l1 : Int32) (l2 : Int32) (ht : is_tr t) : rn xs L 47 29 [vR t, vI l1, vI l2] [] (mw f a g) = rn xs L 47 2 [vR t, vI l1, vI (l2 + (1 : Int32))] [] (mw f a g) :=
  (r_inc (pg_of mt_47 dX4_signWritten_29 rfl) (y := (1 : Int32)) (by decide) rfl rfl).trans <|
  (r_gto (pg_of mt_47 dX4_signWritten_32 rfl))
theorem b47_35 (t : Nat) (l1 : Int32) (l2 : Int32) (ht : is_tr t) : rn xs L 47 35 [vR t, vI l1, vI l2] [] (mw f a g) = some (some (vI (-3 : Int32)), (mw f a g)) :=
  (r_con (pg_of mt_47 dX4_signWritten_35 rfl) (v2 := (-3 : Int32)) (by decide)).trans <|
  (r_ri (pg_of mt_47 dX4_signWritten_37 rfl) mt_47 rfl)
-- 48 LeafFalls$Tree.hangingSet()I
theorem b48_0 (t : Nat) (l1 : ma_V) (l2 : ma_V) (ht : is_tr t) : rn xs L 48 0 [vR t, l1, l2] [] (mw f a g) = rn xs L 48 4 [vR t, vI (0 : Int32), vI (0 : Int32)] [] (mw f a g) :=
  (r_con (pg_of mt_48 dX4_hangingSet_0 rfl) (v2 := (0 : Int32)) (by decide)).trans <|
  (r_ist (pg_of mt_48 dX4_hangingSet_1 rfl) (Nat.le_of_ble_eq_true rfl) rfl).trans <|
  (r_con (pg_of mt_48 dX4_hangingSet_2 rfl) (v2 := (0 : Int32)) (by decide)).trans <|
  (r_ist (pg_of mt_48 dX4_hangingSet_3 rfl) (Nat.le_of_ble_eq_true rfl) rfl)
theorem b48_4 (t : Nat) (l1 : Int32) (l2 : Int32) (ht : is_tr t) : rn xs L 48 4 [vR t, vI l1, vI l2] [] (mw f a g) = if l2 < (f t 7) then rn xs L 48 12 [vR t, vI l1, vI l2] [] (mw f a g) else rn xs L 48 32 [vR t, vI l1, vI l2] [] (mw f a g) :=
  (r_ild (pg_of mt_48 dX4_hangingSet_4 rfl) rfl).trans <|
  (r_ald (pg_of mt_48 dX4_hangingSet_5 rfl) rfl).trans <|
  (r_gti (pg_of mt_48 dX4_hangingSet_6 rfl) (mw_tr ht)).trans <|
  (r_ge (pg_of mt_48 dX4_hangingSet_9 rfl))
theorem b48_12 (t : Nat) (l1 : Int32) (l2 : Int32) (ht : is_tr t) : rn xs L 48 12 [vR t, vI l1, vI l2] [] (mw f a g) = (ev xs L 35 2 [vR t, vI l2] (mw f a g)).bind (fun b => rn xs L 48 17 [vR t, vI l1, vI l2] (b.1.toList ++ []) b.2) :=
  (r_ald (pg_of mt_48 dX4_hangingSet_12 rfl) rfl).trans <|
  (r_ild (pg_of mt_48 dX4_hangingSet_13 rfl) rfl).trans <|
  (r_call (t := tt_48) (t2 := tt_35) (pg_of mt_48 dX4_hangingSet_14 rfl) mt_48 mt_35 rfl rfl (rcv1 (mw_tr ht)) rfl rfl)
theorem b48_17 (t : Nat) (l1 : Int32) (l2 : Int32) (s0 : Int32) (ht : is_tr t) : rn xs L 48 17 [vR t, vI l1, vI l2] [vI s0] (mw f a g) = if s0 = 0 then rn xs L 48 26 [vR t, vI l1, vI l2] [] (mw f a g) else rn xs L 48 20 [vR t, vI l1, vI l2] [] (mw f a g) :=
  (r_eq0 (pg_of mt_48 dX4_hangingSet_17 rfl))
theorem b48_20 (t : Nat) (l1 : Int32) (l2 : Int32) (ht : is_tr t) : rn xs L 48 20 [vR t, vI l1, vI l2] [] (mw f a g) = rn xs L 48 4 [vR t, vI (l1 ||| ((1 : Int32) <<< (l2 &&& 31))), vI (l2 + (1 : Int32))] [] (mw f a g) :=
  (r_ild (pg_of mt_48 dX4_hangingSet_20 rfl) rfl).trans <|
  (r_con (pg_of mt_48 dX4_hangingSet_21 rfl) (v2 := (1 : Int32)) (by decide)).trans <|
  (r_ild (pg_of mt_48 dX4_hangingSet_22 rfl) rfl).trans <|
  (r_bin (pg_of mt_48 dX4_hangingSet_23 rfl)).trans <|
  (r_bin (pg_of mt_48 dX4_hangingSet_24 rfl)).trans <|
  (r_ist (pg_of mt_48 dX4_hangingSet_25 rfl) (Nat.le_of_ble_eq_true rfl) rfl).trans <|
  (r_inc (pg_of mt_48 dX4_hangingSet_26 rfl) (y := (1 : Int32)) (by decide) rfl rfl).trans <|
  (r_gto (pg_of mt_48 dX4_hangingSet_29 rfl))
theorem b48_26 (t : Nat) (l1 : Int32) (l2 : Int32) (ht : is_tr t) : rn xs L 48 26 [vR t, vI l1, vI l2] [] (mw f a g) = rn xs L 48 4 [vR t, vI l1, vI (l2 + (1 : Int32))] [] (mw f a g) :=
  (r_inc (pg_of mt_48 dX4_hangingSet_26 rfl) (y := (1 : Int32)) (by decide) rfl rfl).trans <|
  (r_gto (pg_of mt_48 dX4_hangingSet_29 rfl))
theorem b48_32 (t : Nat) (l1 : Int32) (l2 : Int32) (ht : is_tr t) : rn xs L 48 32 [vR t, vI l1, vI l2] [] (mw f a g) = some (some (vI l1), (mw f a g)) :=
  (r_ild (pg_of mt_48 dX4_hangingSet_32 rfl) rfl).trans <|
  (r_ri (pg_of mt_48 dX4_hangingSet_33 rfl) mt_48 rfl)
-- 49 LeafFalls$Tree.holdTogether()I
theorem b49_0 (t : Nat) (l1 : ma_V) (l2 : ma_V) (ht : is_tr t) : rn xs L 49 0 [vR t, l1, l2] [] (mw f a g) = rn xs L 49 4 [vR t, vI (0 : Int32), vI (0 : Int32)] [] (mw f a g) :=
  (r_con (pg_of mt_49 dX4_holdTogether_0 rfl) (v2 := (0 : Int32)) (by decide)).trans <|
  (r_ist (pg_of mt_49 dX4_holdTogether_1 rfl) (Nat.le_of_ble_eq_true rfl) rfl).trans <|
  (r_con (pg_of mt_49 dX4_holdTogether_2 rfl) (v2 := (0 : Int32)) (by decide)).trans <|
  (r_ist (pg_of mt_49 dX4_holdTogether_3 rfl) (Nat.le_of_ble_eq_true rfl) rfl)
theorem b49_4 (t : Nat) (l1 : Int32) (l2 : Int32) (ht : is_tr t) : rn xs L 49 4 [vR t, vI l1, vI l2] [] (mw f a g) = if l2 < (f t 7) then rn xs L 49 12 [vR t, vI l1, vI l2] [] (mw f a g) else rn xs L 49 35 [vR t, vI l1, vI l2] [] (mw f a g) :=
  (r_ild (pg_of mt_49 dX4_holdTogether_4 rfl) rfl).trans <|
  (r_ald (pg_of mt_49 dX4_holdTogether_5 rfl) rfl).trans <|
  (r_gti (pg_of mt_49 dX4_holdTogether_6 rfl) (mw_tr ht)).trans <|
  (r_ge (pg_of mt_49 dX4_holdTogether_9 rfl))
theorem b49_12 (t : Nat) (l1 : Int32) (l2 : Int32) (ht : is_tr t) : rn xs L 49 12 [vR t, vI l1, vI l2] [] (mw f a g) = (ev xs L 35 2 [vR t, vI l2] (mw f a g)).bind (fun b => rn xs L 49 17 [vR t, vI l1, vI l2] (b.1.toList ++ []) b.2) :=
  (r_ald (pg_of mt_49 dX4_holdTogether_12 rfl) rfl).trans <|
  (r_ild (pg_of mt_49 dX4_holdTogether_13 rfl) rfl).trans <|
  (r_call (t := tt_49) (t2 := tt_35) (pg_of mt_49 dX4_holdTogether_14 rfl) mt_49 mt_35 rfl rfl (rcv1 (mw_tr ht)) rfl rfl)
theorem b49_17 (t : Nat) (l1 : Int32) (l2 : Int32) (s0 : Int32) (ht : is_tr t) : rn xs L 49 17 [vR t, vI l1, vI l2] [vI s0] (mw f a g) = if s0 = 0 then rn xs L 49 29 [vR t, vI l1, vI l2] [] (mw f a g) else rn xs L 49 20 [vR t, vI l1, vI l2] [] (mw f a g) :=
  (r_eq0 (pg_of mt_49 dX4_holdTogether_17 rfl))
theorem b49_20 (t : Nat) (l1 : Int32) (l2 : Int32) (ht : is_tr t) (h1 : ma_in l2 8 = true) : rn xs L 49 20 [vR t, vI l1, vI l2] [] (mw f a g) = rn xs L 49 4 [vR t, vI (l1 + (a ((t + 5)) l2.toNatClampNeg)), vI (l2 + (1 : Int32))] [] (mw f a g) :=
  (r_ild (pg_of mt_49 dX4_holdTogether_20 rfl) rfl).trans <|
  (r_ald (pg_of mt_49 dX4_holdTogether_21 rfl) rfl).trans <|
  (r_gtr (a := (t + 5)) (pg_of mt_49 dX4_holdTogether_22 rfl) (mw_tr ht) (mw_tf ht (by decide))).trans <|
  (r_ild (pg_of mt_49 dX4_holdTogether_25 rfl) rfl).trans <|
  (r_iald (pg_of mt_49 dX4_holdTogether_26 rfl) (mw_tr4 ht) h1).trans <|
  (r_bin (pg_of mt_49 dX4_holdTogether_27 rfl)).trans <|
  (r_ist (pg_of mt_49 dX4_holdTogether_28 rfl) (Nat.le_of_ble_eq_true rfl) rfl).trans <|
  (r_inc (pg_of mt_49 dX4_holdTogether_29 rfl) (y := (1 : Int32)) (by decide) rfl rfl).trans <|
  (r_gto (pg_of mt_49 dX4_holdTogether_32 rfl))
theorem b49_29 (t : Nat) (l1 : Int32) (l2 : Int32) (ht : is_tr t) : rn xs L 49 29 [vR t, vI l1, vI l2] [] (mw f a g) = rn xs L 49 4 [vR t, vI l1, vI (l2 + (1 : Int32))] [] (mw f a g) :=
  (r_inc (pg_of mt_49 dX4_holdTogether_29 rfl) (y := (1 : Int32)) (by decide) rfl rfl).trans <|
  (r_gto (pg_of mt_49 dX4_holdTogether_32 rfl))
theorem b49_35 (t : Nat) (l1 : Int32) (l2 : Int32) (ht : is_tr t) : rn xs L 49 35 [vR t, vI l1, vI l2] [] (mw f a g) = some (some (vI l1), (mw f a g)) :=
  (r_ild (pg_of mt_49 dX4_holdTogether_35 rfl) rfl).trans <|
  (r_ri (pg_of mt_49 dX4_holdTogether_36 rfl) mt_49 rfl)
-- 50 LeafFalls$Tree.rhymes()I
theorem b50_0 (t : Nat) (l1 : ma_V) (l2 : ma_V) (ht : is_tr t) : rn xs L 50 0 [vR t, l1, l2] [] (mw f a g) = rn xs L 50 4 [vR t, vI (0 : Int32), vI (1 : Int32)] [] (mw f a g) :=
  (r_con (pg_of mt_50 dX4_rhymes_0 rfl) (v2 := (0 : Int32)) (by decide)).trans <|
  (r_ist (pg_of mt_50 dX4_rhymes_1 rfl) (Nat.le_of_ble_eq_true rfl) rfl).trans <|
  (r_con (pg_of mt_50 dX4_rhymes_2 rfl) (v2 := (1 : Int32)) (by decide)).trans <|
  (r_ist (pg_of mt_50 dX4_rhymes_3 rfl) (Nat.le_of_ble_eq_true rfl) rfl)
theorem b50_4 (t : Nat) (l1 : Int32) (l2 : Int32) (ht : is_tr t) : rn xs L 50 4 [vR t, vI l1, vI l2] [] (mw f a g) = if l2 < (f t 8) then rn xs L 50 12 [vR t, vI l1, vI l2] [] (mw f a g) else rn xs L 50 36 [vR t, vI l1, vI l2] [] (mw f a g) :=
  (r_ild (pg_of mt_50 dX4_rhymes_4 rfl) rfl).trans <|
  (r_ald (pg_of mt_50 dX4_rhymes_5 rfl) rfl).trans <|
  (r_gti (pg_of mt_50 dX4_rhymes_6 rfl) (mw_tr ht)).trans <|
  (r_ge (pg_of mt_50 dX4_rhymes_9 rfl))
theorem b50_12 (t : Nat) (l1 : Int32) (l2 : Int32) (ht : is_tr t) : rn xs L 50 12 [vR t, vI l1, vI l2] [] (mw f a g) = (ev xs L 47 3 [vR t, vI l2] (mw f a g)).bind (fun b => rn xs L 50 17 [vR t, vI l1, vI l2] (b.1.toList ++ []) b.2) :=
  (r_ald (pg_of mt_50 dX4_rhymes_12 rfl) rfl).trans <|
  (r_ild (pg_of mt_50 dX4_rhymes_13 rfl) rfl).trans <|
  (r_call (t := tt_50) (t2 := tt_47) (pg_of mt_50 dX4_rhymes_14 rfl) mt_50 mt_47 rfl rfl (rcv1 (mw_tr ht)) rfl rfl)
theorem b50_17 (t : Nat) (l1 : Int32) (l2 : Int32) (s0 : Int32) (ht : is_tr t) : rn xs L 50 17 [vR t, vI l1, vI l2] [vI s0] (mw f a g) = (ev xs L 47 3 [vR t, vI (l2 - (1 : Int32))] (mw f a g)).bind (fun b => rn xs L 50 24 [vR t, vI l1, vI l2] (b.1.toList ++ [vI s0]) b.2) :=
  (r_ald (pg_of mt_50 dX4_rhymes_17 rfl) rfl).trans <|
  (r_ild (pg_of mt_50 dX4_rhymes_18 rfl) rfl).trans <|
  (r_con (pg_of mt_50 dX4_rhymes_19 rfl) (v2 := (1 : Int32)) (by decide)).trans <|
  (r_bin (pg_of mt_50 dX4_rhymes_20 rfl)).trans <|
  (r_call (t := tt_50) (t2 := tt_47) (pg_of mt_50 dX4_rhymes_21 rfl) mt_50 mt_47 rfl rfl (rcv1 (mw_tr ht)) rfl rfl)
theorem b50_24 (t : Nat) (l1 : Int32) (l2 : Int32) (s0 : Int32) (s1 : Int32) (ht : is_tr t) : rn xs L 50 24 [vR t, vI l1, vI l2] [vI s0, vI s1] (mw f a g) = if s1 = s0 then rn xs L 50 27 [vR t, vI l1, vI l2] [] (mw f a g) else rn xs L 50 30 [vR t, vI l1, vI l2] [] (mw f a g) :=
  (r_ne (pg_of mt_50 dX4_rhymes_24 rfl))
theorem b50_27 (t : Nat) (l1 : Int32) (l2 : Int32) (ht : is_tr t) : rn xs L 50 27 [vR t, vI l1, vI l2] [] (mw f a g) = rn xs L 50 4 [vR t, vI (l1 + (1 : Int32)), vI (l2 + (1 : Int32))] [] (mw f a g) :=
  (r_inc (pg_of mt_50 dX4_rhymes_27 rfl) (y := (1 : Int32)) (by decide) rfl rfl).trans <|
  (r_inc (pg_of mt_50 dX4_rhymes_30 rfl) (y := (1 : Int32)) (by decide) rfl rfl).trans <|
  (r_gto (pg_of mt_50 dX4_rhymes_33 rfl))
theorem b50_30 (t : Nat) (l1 : Int32) (l2 : Int32) (ht : is_tr t) : rn xs L 50 30 [vR t, vI l1, vI l2] [] (mw f a g) = rn xs L 50 4 [vR t, vI l1, vI (l2 + (1 : Int32))] [] (mw f a g) :=
  (r_inc (pg_of mt_50 dX4_rhymes_30 rfl) (y := (1 : Int32)) (by decide) rfl rfl).trans <|
  (r_gto (pg_of mt_50 dX4_rhymes_33 rfl))
theorem b50_36 (t : Nat) (l1 : Int32) (l2 : Int32) (ht : is_tr t) : rn xs L 50 36 [vR t, vI l1, vI l2] [] (mw f a g) = some (some (vI l1), (mw f a g)) :=
  (r_ild (pg_of mt_50 dX4_rhymes_36 rfl) rfl).trans <|
  (r_ri (pg_of mt_50 dX4_rhymes_37 rfl) mt_50 rfl)
-- 51 LeafFalls$Tree.spelled()I
theorem b51_0 (t : Nat) (l1 : ma_V) (l2 : ma_V) (ht : is_tr t) : rn xs L 51 0 [vR t, l1, l2] [] (mw f a g) = rn xs L 51 4 [vR t, vI (0 : Int32), vI (0 : Int32)] [] (mw f a g) :=
  (r_con (pg_of mt_51 dX4_spelled_0 rfl) (v2 := (0 : Int32)) (by decide)).trans <|
  (r_ist (pg_of mt_51 dX4_spelled_1 rfl) (Nat.le_of_ble_eq_true rfl) rfl).trans <|
  (r_con (pg_of mt_51 dX4_spelled_2 rfl) (v2 := (0 : Int32)) (by decide)).trans <|
  (r_ist (pg_of mt_51 dX4_spelled_3 rfl) (Nat.le_of_ble_eq_true rfl) rfl)
theorem b51_4 (t : Nat) (l1 : Int32) (l2 : Int32) (ht : is_tr t) : rn xs L 51 4 [vR t, vI l1, vI l2] [] (mw f a g) = if l2 < (f t 8) then rn xs L 51 12 [vR t, vI l1, vI l2] [] (mw f a g) else rn xs L 51 29 [vR t, vI l1, vI l2] [] (mw f a g) :=
  (r_ild (pg_of mt_51 dX4_spelled_4 rfl) rfl).trans <|
  (r_ald (pg_of mt_51 dX4_spelled_5 rfl) rfl).trans <|
  (r_gti (pg_of mt_51 dX4_spelled_6 rfl) (mw_tr ht)).trans <|
  (r_ge (pg_of mt_51 dX4_spelled_9 rfl))
theorem b51_12 (t : Nat) (l1 : Int32) (l2 : Int32) (ht : is_tr t) : rn xs L 51 12 [vR t, vI l1, vI l2] [] (mw f a g) = (ev xs L 47 3 [vR t, vI l2] (mw f a g)).bind (fun b => rn xs L 51 21 [vR t, vI l1, vI l2] (b.1.toList ++ [vI (l1 * (10 : Int32))]) b.2) :=
  (r_ild (pg_of mt_51 dX4_spelled_12 rfl) rfl).trans <|
  (r_con (pg_of mt_51 dX4_spelled_13 rfl) (v2 := (10 : Int32)) (by decide)).trans <|
  (r_bin (pg_of mt_51 dX4_spelled_15 rfl)).trans <|
  (r_ald (pg_of mt_51 dX4_spelled_16 rfl) rfl).trans <|
  (r_ild (pg_of mt_51 dX4_spelled_17 rfl) rfl).trans <|
  (r_call (t := tt_51) (t2 := tt_47) (pg_of mt_51 dX4_spelled_18 rfl) mt_51 mt_47 rfl rfl (rcv1 (mw_tr ht)) rfl rfl)
theorem b51_21 (t : Nat) (l1 : Int32) (l2 : Int32) (s0 : Int32) (s1 : Int32) (ht : is_tr t) : rn xs L 51 21 [vR t, vI l1, vI l2] [vI s0, vI s1] (mw f a g) = rn xs L 51 4 [vR t, vI (s1 + s0), vI (l2 + (1 : Int32))] [] (mw f a g) :=
  (r_bin (pg_of mt_51 dX4_spelled_21 rfl)).trans <|
  (r_ist (pg_of mt_51 dX4_spelled_22 rfl) (Nat.le_of_ble_eq_true rfl) rfl).trans <|
  (r_inc (pg_of mt_51 dX4_spelled_23 rfl) (y := (1 : Int32)) (by decide) rfl rfl).trans <|
  (r_gto (pg_of mt_51 dX4_spelled_26 rfl))
theorem b51_29 (t : Nat) (l1 : Int32) (l2 : Int32) (ht : is_tr t) : rn xs L 51 29 [vR t, vI l1, vI l2] [] (mw f a g) = some (some (vI l1), (mw f a g)) :=
  (r_ild (pg_of mt_51 dX4_spelled_29 rfl) rfl).trans <|
  (r_ri (pg_of mt_51 dX4_spelled_30 rfl) mt_51 rfl)
-- 52 LeafFalls$Tree.swayTogether()I
theorem b52_0 (t : Nat) (l1 : ma_V) (l2 : ma_V) (ht : is_tr t) : rn xs L 52 0 [vR t, l1, l2] [] (mw f a g) = rn xs L 52 4 [vR t, vI (0 : Int32), vI (0 : Int32)] [] (mw f a g) :=
  (r_con (pg_of mt_52 dX4_swayTogether_0 rfl) (v2 := (0 : Int32)) (by decide)).trans <|
  (r_ist (pg_of mt_52 dX4_swayTogether_1 rfl) (Nat.le_of_ble_eq_true rfl) rfl).trans <|
  (r_con (pg_of mt_52 dX4_swayTogether_2 rfl) (v2 := (0 : Int32)) (by decide)).trans <|
  (r_ist (pg_of mt_52 dX4_swayTogether_3 rfl) (Nat.le_of_ble_eq_true rfl) rfl)
theorem b52_4 (t : Nat) (l1 : Int32) (l2 : Int32) (ht : is_tr t) : rn xs L 52 4 [vR t, vI l1, vI l2] [] (mw f a g) = if l2 < (6 : Int32) then rn xs L 52 10 [vR t, vI l1, vI l2] [] (mw f a g) else rn xs L 52 25 [vR t, vI l1, vI l2] [] (mw f a g) :=
  (r_ild (pg_of mt_52 dX4_swayTogether_4 rfl) rfl).trans <|
  (r_con (pg_of mt_52 dX4_swayTogether_5 rfl) (v2 := (6 : Int32)) (by decide)).trans <|
  (r_ge (pg_of mt_52 dX4_swayTogether_7 rfl))
theorem b52_10 (t : Nat) (l1 : Int32) (l2 : Int32) (ht : is_tr t) (h1 : ma_in l2 6 = true) : rn xs L 52 10 [vR t, vI l1, vI l2] [] (mw f a g) = rn xs L 52 4 [vR t, vI (l1 + (a ((t + 2)) l2.toNatClampNeg)), vI (l2 + (1 : Int32))] [] (mw f a g) :=
  (r_ild (pg_of mt_52 dX4_swayTogether_10 rfl) rfl).trans <|
  (r_ald (pg_of mt_52 dX4_swayTogether_11 rfl) rfl).trans <|
  (r_gtr (a := (t + 2)) (pg_of mt_52 dX4_swayTogether_12 rfl) (mw_tr ht) (mw_tf ht (by decide))).trans <|
  (r_ild (pg_of mt_52 dX4_swayTogether_15 rfl) rfl).trans <|
  (r_iald (pg_of mt_52 dX4_swayTogether_16 rfl) (mw_tr1 ht) h1).trans <|
  (r_bin (pg_of mt_52 dX4_swayTogether_17 rfl)).trans <|
  (r_ist (pg_of mt_52 dX4_swayTogether_18 rfl) (Nat.le_of_ble_eq_true rfl) rfl).trans <|
  (r_inc (pg_of mt_52 dX4_swayTogether_19 rfl) (y := (1 : Int32)) (by decide) rfl rfl).trans <|
  (r_gto (pg_of mt_52 dX4_swayTogether_22 rfl))
theorem b52_25 (t : Nat) (l1 : Int32) (l2 : Int32) (ht : is_tr t) : rn xs L 52 25 [vR t, vI l1, vI l2] [] (mw f a g) = some (some (vI l1), (mw f a g)) :=
  (r_ild (pg_of mt_52 dX4_swayTogether_25 rfl) rfl).trans <|
  (r_ri (pg_of mt_52 dX4_swayTogether_26 rfl) mt_52 rfl)
-- 53 LeafFalls$Tree.boughsHungOn()I
theorem b53_0 (t : Nat) (l1 : ma_V) (l2 : ma_V) (ht : is_tr t) : rn xs L 53 0 [vR t, l1, l2] [] (mw f a g) = rn xs L 53 4 [vR t, vI (0 : Int32), vI (0 : Int32)] [] (mw f a g) :=
  (r_con (pg_of mt_53 dX4_boughsHungOn_0 rfl) (v2 := (0 : Int32)) (by decide)).trans <|
  (r_ist (pg_of mt_53 dX4_boughsHungOn_1 rfl) (Nat.le_of_ble_eq_true rfl) rfl).trans <|
  (r_con (pg_of mt_53 dX4_boughsHungOn_2 rfl) (v2 := (0 : Int32)) (by decide)).trans <|
  (r_ist (pg_of mt_53 dX4_boughsHungOn_3 rfl) (Nat.le_of_ble_eq_true rfl) rfl)
theorem b53_4 (t : Nat) (l1 : Int32) (l2 : Int32) (ht : is_tr t) : rn xs L 53 4 [vR t, vI l1, vI l2] [] (mw f a g) = if l2 < (6 : Int32) then rn xs L 53 10 [vR t, vI l1, vI l2] [] (mw f a g) else rn xs L 53 27 [vR t, vI l1, vI l2] [] (mw f a g) :=
  (r_ild (pg_of mt_53 dX4_boughsHungOn_4 rfl) rfl).trans <|
  (r_con (pg_of mt_53 dX4_boughsHungOn_5 rfl) (v2 := (6 : Int32)) (by decide)).trans <|
  (r_ge (pg_of mt_53 dX4_boughsHungOn_7 rfl))
theorem b53_10 (t : Nat) (l1 : Int32) (l2 : Int32) (ht : is_tr t) : rn xs L 53 10 [vR t, vI l1, vI l2] [] (mw f a g) = (ev xs L 37 4 [vR t, vI l2] (mw f a g)).bind (fun b => rn xs L 53 15 [vR t, vI l1, vI l2] (b.1.toList ++ []) b.2) :=
  (r_ald (pg_of mt_53 dX4_boughsHungOn_10 rfl) rfl).trans <|
  (r_ild (pg_of mt_53 dX4_boughsHungOn_11 rfl) rfl).trans <|
  (r_call (t := tt_53) (t2 := tt_37) (pg_of mt_53 dX4_boughsHungOn_12 rfl) mt_53 mt_37 rfl rfl (rcv1 (mw_tr ht)) rfl rfl)
theorem b53_15 (t : Nat) (l1 : Int32) (l2 : Int32) (s0 : Int32) (ht : is_tr t) : rn xs L 53 15 [vR t, vI l1, vI l2] [vI s0] (mw f a g) = if s0 = 0 then rn xs L 53 21 [vR t, vI l1, vI l2] [] (mw f a g) else rn xs L 53 18 [vR t, vI l1, vI l2] [] (mw f a g) :=
  (r_eq0 (pg_of mt_53 dX4_boughsHungOn_15 rfl))
theorem b53_18 (t : Nat) (l1 : Int32) (l2 : Int32) (ht : is_tr t) : rn xs L 53 18 [vR t, vI l1, vI l2] [] (mw f a g) = rn xs L 53 4 [vR t, vI (l1 + (1 : Int32)), vI (l2 + (1 : Int32))] [] (mw f a g) :=
  (r_inc (pg_of mt_53 dX4_boughsHungOn_18 rfl) (y := (1 : Int32)) (by decide) rfl rfl).trans <|
  (r_inc (pg_of mt_53 dX4_boughsHungOn_21 rfl) (y := (1 : Int32)) (by decide) rfl rfl).trans <|
  (r_gto (pg_of mt_53 dX4_boughsHungOn_24 rfl))
theorem b53_21 (t : Nat) (l1 : Int32) (l2 : Int32) (ht : is_tr t) : rn xs L 53 21 [vR t, vI l1, vI l2] [] (mw f a g) = rn xs L 53 4 [vR t, vI l1, vI (l2 + (1 : Int32))] [] (mw f a g) :=
  (r_inc (pg_of mt_53 dX4_boughsHungOn_21 rfl) (y := (1 : Int32)) (by decide) rfl rfl).trans <|
  (r_gto (pg_of mt_53 dX4_boughsHungOn_24 rfl))
theorem b53_27 (t : Nat) (l1 : Int32) (l2 : Int32) (ht : is_tr t) : rn xs L 53 27 [vR t, vI l1, vI l2] [] (mw f a g) = some (some (vI l1), (mw f a g)) :=
  (r_ild (pg_of mt_53 dX4_boughsHungOn_27 rfl) rfl).trans <|
  (r_ri (pg_of mt_53 dX4_boughsHungOn_28 rfl) mt_53 rfl)
end
end
