section
-- ===== PART A: goes FIRST, ahead of the names: the tables' words, and 'selects' of the private methods out of them =====
/-- a private method of a class that the tables say can be made, by its rows of tables_1 -/
def lw_okq (q : MethodName × Nat) : Prop := (q.1.cls ≠ "java/lang/invoke/MethodHandle" ∧ q.1.cls ≠ "java/lang/invoke/VarHandle") ∧ Cond.instantiable q.1.cls q.2 ∈ tables_1 ∧ Cond.privateMethod q.1 ∈ tables_1 ∧ Cond.instanceMethod q.1 ∈ tables_1
theorem lw_p0 : lw_okq (⟨"CubeCarton", "bodyHasChanged", "()V"⟩, 11) := ⟨⟨by decide +kernel, by decide +kernel⟩, List.mem_of_getElem? (i := 20) (by decide +kernel), List.mem_of_getElem? (i := 347) (by decide +kernel), List.mem_of_getElem? (i := 348) (by decide +kernel)⟩
theorem lw_p1 : lw_okq (⟨"CubeCarton$Skin", "numberSquares", "()V"⟩, 8) := ⟨⟨by decide +kernel, by decide +kernel⟩, List.mem_of_getElem? (i := 112) (by decide +kernel), List.mem_of_getElem? (i := 372) (by decide +kernel), List.mem_of_getElem? (i := 373) (by decide +kernel)⟩
theorem lw_p2 : lw_okq (⟨"CubeCarton$Skin", "lead", "(II)V"⟩, 8) := ⟨⟨by decide +kernel, by decide +kernel⟩, List.mem_of_getElem? (i := 112) (by decide +kernel), List.mem_of_getElem? (i := 388) (by decide +kernel), List.mem_of_getElem? (i := 389) (by decide +kernel)⟩
theorem lw_p3 : lw_okq (⟨"CubeCarton$Skin", "note", "(IIIIII)V"⟩, 8) := ⟨⟨by decide +kernel, by decide +kernel⟩, List.mem_of_getElem? (i := 112) (by decide +kernel), List.mem_of_getElem? (i := 397) (by decide +kernel), List.mem_of_getElem? (i := 398) (by decide +kernel)⟩
theorem lw_p4 : lw_okq (⟨"CubeCarton$Layout", "layAll", "(LCubeCarton$Skin;LCubeCarton$Edges;)V"⟩, 6) := ⟨⟨by decide +kernel, by decide +kernel⟩, List.mem_of_getElem? (i := 163) (by decide +kernel), List.mem_of_getElem? (i := 523) (by decide +kernel), List.mem_of_getElem? (i := 524) (by decide +kernel)⟩
theorem lw_p5 : lw_okq (⟨"CubeCarton$Layout", "layOne", "(IIII)V"⟩, 6) := ⟨⟨by decide +kernel, by decide +kernel⟩, List.mem_of_getElem? (i := 163) (by decide +kernel), List.mem_of_getElem? (i := 528) (by decide +kernel), List.mem_of_getElem? (i := 529) (by decide +kernel)⟩
theorem lw_p6 : lw_okq (⟨"CubeCarton$Layout", "turnBeside", "(LCubeCarton$Skin;II)I"⟩, 6) := ⟨⟨by decide +kernel, by decide +kernel⟩, List.mem_of_getElem? (i := 163) (by decide +kernel), List.mem_of_getElem? (i := 544) (by decide +kernel), List.mem_of_getElem? (i := 545) (by decide +kernel)⟩
theorem lw_p7 : lw_okq (⟨"CubeCarton$Layout", "agrees", "(LCubeCarton$Skin;LCubeCarton$Edges;)Z"⟩, 6) := ⟨⟨by decide +kernel, by decide +kernel⟩, List.mem_of_getElem? (i := 163) (by decide +kernel), List.mem_of_getElem? (i := 549) (by decide +kernel), List.mem_of_getElem? (i := 550) (by decide +kernel)⟩
theorem lw_p8 : lw_okq (⟨"CubeCarton$Layout", "liesBeside", "(LCubeCarton$Skin;II)Z"⟩, 6) := ⟨⟨by decide +kernel, by decide +kernel⟩, List.mem_of_getElem? (i := 163) (by decide +kernel), List.mem_of_getElem? (i := 553) (by decide +kernel), List.mem_of_getElem? (i := 554) (by decide +kernel)⟩
theorem lw_p9 : lw_okq (⟨"CubeCarton$Layout", "overlaps", "()Z"⟩, 6) := ⟨⟨by decide +kernel, by decide +kernel⟩, List.mem_of_getElem? (i := 163) (by decide +kernel), List.mem_of_getElem? (i := 557) (by decide +kernel), List.mem_of_getElem? (i := 558) (by decide +kernel)⟩
theorem lw_p10 : lw_okq (⟨"CubeCarton$Sheet", "firstNotBefore", "(II)I"⟩, 4) := ⟨⟨by decide +kernel, by decide +kernel⟩, List.mem_of_getElem? (i := 58) (by decide +kernel), List.mem_of_getElem? (i := 580) (by decide +kernel), List.mem_of_getElem? (i := 581) (by decide +kernel)⟩
theorem lw_p11 : lw_okq (⟨"CubeCarton$Sheet", "shift", "(III)V"⟩, 4) := ⟨⟨by decide +kernel, by decide +kernel⟩, List.mem_of_getElem? (i := 58) (by decide +kernel), List.mem_of_getElem? (i := 584) (by decide +kernel), List.mem_of_getElem? (i := 585) (by decide +kernel)⟩
theorem lw_p12 : lw_okq (⟨"CubeCarton$Links", "reachAll", "()V"⟩, 5) := ⟨⟨by decide +kernel, by decide +kernel⟩, List.mem_of_getElem? (i := 188) (by decide +kernel), List.mem_of_getElem? (i := 703) (by decide +kernel), List.mem_of_getElem? (i := 704) (by decide +kernel)⟩
theorem lw_p13 : lw_okq (⟨"CubeCarton$Folding", "layAll", "(LCubeCarton$Sheet;LCubeCarton$Links;)V"⟩, 4) := ⟨⟨by decide +kernel, by decide +kernel⟩, List.mem_of_getElem? (i := 210) (by decide +kernel), List.mem_of_getElem? (i := 716) (by decide +kernel), List.mem_of_getElem? (i := 717) (by decide +kernel)⟩
theorem lw_p14 : lw_okq (⟨"CubeCarton$Folding", "cross", "(III)V"⟩, 4) := ⟨⟨by decide +kernel, by decide +kernel⟩, List.mem_of_getElem? (i := 210) (by decide +kernel), List.mem_of_getElem? (i := 733) (by decide +kernel), List.mem_of_getElem? (i := 734) (by decide +kernel)⟩
theorem lw_p15 : lw_okq (⟨"CubeCarton$Folding", "heading", "(II)I"⟩, 4) := ⟨⟨by decide +kernel, by decide +kernel⟩, List.mem_of_getElem? (i := 210) (by decide +kernel), List.mem_of_getElem? (i := 741) (by decide +kernel), List.mem_of_getElem? (i := 742) (by decide +kernel)⟩
def lw_privs_1 : List (MethodName × Nat) := [(⟨"CubeCarton", "bodyHasChanged", "()V"⟩, 11), (⟨"CubeCarton$Skin", "numberSquares", "()V"⟩, 8), (⟨"CubeCarton$Skin", "lead", "(II)V"⟩, 8), (⟨"CubeCarton$Skin", "note", "(IIIIII)V"⟩, 8), (⟨"CubeCarton$Layout", "layAll", "(LCubeCarton$Skin;LCubeCarton$Edges;)V"⟩, 6), (⟨"CubeCarton$Layout", "layOne", "(IIII)V"⟩, 6), (⟨"CubeCarton$Layout", "turnBeside", "(LCubeCarton$Skin;II)I"⟩, 6), (⟨"CubeCarton$Layout", "agrees", "(LCubeCarton$Skin;LCubeCarton$Edges;)Z"⟩, 6), (⟨"CubeCarton$Layout", "liesBeside", "(LCubeCarton$Skin;II)Z"⟩, 6), (⟨"CubeCarton$Layout", "overlaps", "()Z"⟩, 6), (⟨"CubeCarton$Sheet", "firstNotBefore", "(II)I"⟩, 4), (⟨"CubeCarton$Sheet", "shift", "(III)V"⟩, 4), (⟨"CubeCarton$Links", "reachAll", "()V"⟩, 5), (⟨"CubeCarton$Folding", "layAll", "(LCubeCarton$Sheet;LCubeCarton$Links;)V"⟩, 4), (⟨"CubeCarton$Folding", "cross", "(III)V"⟩, 4), (⟨"CubeCarton$Folding", "heading", "(II)I"⟩, 4)]
theorem lw_r1 : ∀ q ∈ lw_privs_1, lw_okq q := List.forall_mem_cons.mpr ⟨lw_p0, List.forall_mem_cons.mpr ⟨lw_p1, List.forall_mem_cons.mpr ⟨lw_p2, List.forall_mem_cons.mpr ⟨lw_p3, List.forall_mem_cons.mpr ⟨lw_p4, List.forall_mem_cons.mpr ⟨lw_p5, List.forall_mem_cons.mpr ⟨lw_p6, List.forall_mem_cons.mpr ⟨lw_p7, List.forall_mem_cons.mpr ⟨lw_p8, List.forall_mem_cons.mpr ⟨lw_p9, List.forall_mem_cons.mpr ⟨lw_p10, List.forall_mem_cons.mpr ⟨lw_p11, List.forall_mem_cons.mpr ⟨lw_p12, List.forall_mem_cons.mpr ⟨lw_p13, List.forall_mem_cons.mpr ⟨lw_p14, List.forall_mem_cons.mpr ⟨lw_p15, fun _ h => absurd h List.not_mem_nil⟩⟩⟩⟩⟩⟩⟩⟩⟩⟩⟩⟩⟩⟩⟩⟩
theorem lw_p16 : lw_okq (⟨"CubeCarton$Folding", "agrees", "(LCubeCarton$Sheet;LCubeCarton$Links;)Z"⟩, 4) := ⟨⟨by decide +kernel, by decide +kernel⟩, List.mem_of_getElem? (i := 210) (by decide +kernel), List.mem_of_getElem? (i := 748) (by decide +kernel), List.mem_of_getElem? (i := 749) (by decide +kernel)⟩
theorem lw_p17 : lw_okq (⟨"CubeCarton$Folding", "liesBeside", "(I)Z"⟩, 4) := ⟨⟨by decide +kernel, by decide +kernel⟩, List.mem_of_getElem? (i := 210) (by decide +kernel), List.mem_of_getElem? (i := 756) (by decide +kernel), List.mem_of_getElem? (i := 757) (by decide +kernel)⟩
theorem lw_p18 : lw_okq (⟨"CubeCarton$Folding", "overlaps", "()Z"⟩, 4) := ⟨⟨by decide +kernel, by decide +kernel⟩, List.mem_of_getElem? (i := 210) (by decide +kernel), List.mem_of_getElem? (i := 760) (by decide +kernel), List.mem_of_getElem? (i := 761) (by decide +kernel)⟩
theorem lw_p19 : lw_okq (⟨"CubeCarton$Folding", "rim", "(II)I"⟩, 4) := ⟨⟨by decide +kernel, by decide +kernel⟩, List.mem_of_getElem? (i := 210) (by decide +kernel), List.mem_of_getElem? (i := 777) (by decide +kernel), List.mem_of_getElem? (i := 778) (by decide +kernel)⟩
theorem lw_p20 : lw_okq (⟨"CubeCarton$Folding", "timesAmongRims", "(I)I"⟩, 4) := ⟨⟨by decide +kernel, by decide +kernel⟩, List.mem_of_getElem? (i := 210) (by decide +kernel), List.mem_of_getElem? (i := 781) (by decide +kernel), List.mem_of_getElem? (i := 782) (by decide +kernel)⟩
theorem lw_p21 : lw_okq (⟨"CubeCarton$Form", "write", "(LCubeCarton$Sheet;IZ)V"⟩, 5) := ⟨⟨by decide +kernel, by decide +kernel⟩, List.mem_of_getElem? (i := 251) (by decide +kernel), List.mem_of_getElem? (i := 794) (by decide +kernel), List.mem_of_getElem? (i := 795) (by decide +kernel)⟩
theorem lw_p22 : lw_okq (⟨"CubeCarton$Form", "insertKey", "(II)V"⟩, 5) := ⟨⟨by decide +kernel, by decide +kernel⟩, List.mem_of_getElem? (i := 251) (by decide +kernel), List.mem_of_getElem? (i := 801) (by decide +kernel), List.mem_of_getElem? (i := 802) (by decide +kernel)⟩
theorem lw_p23 : lw_okq (⟨"CubeCarton$Form", "compare", "([I[I)I"⟩, 5) := ⟨⟨by decide +kernel, by decide +kernel⟩, List.mem_of_getElem? (i := 251) (by decide +kernel), List.mem_of_getElem? (i := 806) (by decide +kernel), List.mem_of_getElem? (i := 807) (by decide +kernel)⟩
theorem lw_p24 : lw_okq (⟨"CubeCarton$Wrapping", "fits", "(ILCubeCarton$Links;LCubeCarton$Skin;IZ)Z"⟩, 5) := ⟨⟨by decide +kernel, by decide +kernel⟩, List.mem_of_getElem? (i := 229) (by decide +kernel), List.mem_of_getElem? (i := 851) (by decide +kernel), List.mem_of_getElem? (i := 852) (by decide +kernel)⟩
theorem lw_p25 : lw_okq (⟨"CubeCarton$Wrapping", "lay", "(II)V"⟩, 5) := ⟨⟨by decide +kernel, by decide +kernel⟩, List.mem_of_getElem? (i := 229) (by decide +kernel), List.mem_of_getElem? (i := 856) (by decide +kernel), List.mem_of_getElem? (i := 857) (by decide +kernel)⟩
theorem lw_p26 : lw_okq (⟨"CubeCarton$Wrapping", "landing", "(LCubeCarton$Skin;IIZ)I"⟩, 5) := ⟨⟨by decide +kernel, by decide +kernel⟩, List.mem_of_getElem? (i := 229) (by decide +kernel), List.mem_of_getElem? (i := 863) (by decide +kernel), List.mem_of_getElem? (i := 864) (by decide +kernel)⟩
theorem lw_p27 : lw_okq (⟨"CubeCartonModel", "read", "([II)V"⟩, 51) := ⟨⟨by decide +kernel, by decide +kernel⟩, List.mem_of_getElem? (i := 922) (by decide +kernel), List.mem_of_getElem? (i := 1087) (by decide +kernel), List.mem_of_getElem? (i := 1088) (by decide +kernel)⟩
theorem lw_p28 : lw_okq (⟨"CubeCartonModel", "change", "()V"⟩, 51) := ⟨⟨by decide +kernel, by decide +kernel⟩, List.mem_of_getElem? (i := 922) (by decide +kernel), List.mem_of_getElem? (i := 1098) (by decide +kernel), List.mem_of_getElem? (i := 1099) (by decide +kernel)⟩
theorem lw_p29 : lw_okq (⟨"CubeCartonModel", "keep", "()V"⟩, 51) := ⟨⟨by decide +kernel, by decide +kernel⟩, List.mem_of_getElem? (i := 922) (by decide +kernel), List.mem_of_getElem? (i := 1102) (by decide +kernel), List.mem_of_getElem? (i := 1103) (by decide +kernel)⟩
theorem lw_p30 : lw_okq (⟨"CubeCartonModel", "write", "([II)V"⟩, 51) := ⟨⟨by decide +kernel, by decide +kernel⟩, List.mem_of_getElem? (i := 922) (by decide +kernel), List.mem_of_getElem? (i := 1106) (by decide +kernel), List.mem_of_getElem? (i := 1107) (by decide +kernel)⟩
theorem lw_p31 : lw_okq (⟨"CubeCartonModel", "cubesIn", "(I)I"⟩, 51) := ⟨⟨by decide +kernel, by decide +kernel⟩, List.mem_of_getElem? (i := 922) (by decide +kernel), List.mem_of_getElem? (i := 1110) (by decide +kernel), List.mem_of_getElem? (i := 1111) (by decide +kernel)⟩
def lw_privs_2 : List (MethodName × Nat) := [(⟨"CubeCarton$Folding", "agrees", "(LCubeCarton$Sheet;LCubeCarton$Links;)Z"⟩, 4), (⟨"CubeCarton$Folding", "liesBeside", "(I)Z"⟩, 4), (⟨"CubeCarton$Folding", "overlaps", "()Z"⟩, 4), (⟨"CubeCarton$Folding", "rim", "(II)I"⟩, 4), (⟨"CubeCarton$Folding", "timesAmongRims", "(I)I"⟩, 4), (⟨"CubeCarton$Form", "write", "(LCubeCarton$Sheet;IZ)V"⟩, 5), (⟨"CubeCarton$Form", "insertKey", "(II)V"⟩, 5), (⟨"CubeCarton$Form", "compare", "([I[I)I"⟩, 5), (⟨"CubeCarton$Wrapping", "fits", "(ILCubeCarton$Links;LCubeCarton$Skin;IZ)Z"⟩, 5), (⟨"CubeCarton$Wrapping", "lay", "(II)V"⟩, 5), (⟨"CubeCarton$Wrapping", "landing", "(LCubeCarton$Skin;IIZ)I"⟩, 5), (⟨"CubeCartonModel", "read", "([II)V"⟩, 51), (⟨"CubeCartonModel", "change", "()V"⟩, 51), (⟨"CubeCartonModel", "keep", "()V"⟩, 51), (⟨"CubeCartonModel", "write", "([II)V"⟩, 51), (⟨"CubeCartonModel", "cubesIn", "(I)I"⟩, 51)]
theorem lw_r2 : ∀ q ∈ lw_privs_2, lw_okq q := List.forall_mem_cons.mpr ⟨lw_p16, List.forall_mem_cons.mpr ⟨lw_p17, List.forall_mem_cons.mpr ⟨lw_p18, List.forall_mem_cons.mpr ⟨lw_p19, List.forall_mem_cons.mpr ⟨lw_p20, List.forall_mem_cons.mpr ⟨lw_p21, List.forall_mem_cons.mpr ⟨lw_p22, List.forall_mem_cons.mpr ⟨lw_p23, List.forall_mem_cons.mpr ⟨lw_p24, List.forall_mem_cons.mpr ⟨lw_p25, List.forall_mem_cons.mpr ⟨lw_p26, List.forall_mem_cons.mpr ⟨lw_p27, List.forall_mem_cons.mpr ⟨lw_p28, List.forall_mem_cons.mpr ⟨lw_p29, List.forall_mem_cons.mpr ⟨lw_p30, List.forall_mem_cons.mpr ⟨lw_p31, fun _ h => absurd h List.not_mem_nil⟩⟩⟩⟩⟩⟩⟩⟩⟩⟩⟩⟩⟩⟩⟩⟩
theorem lw_p32 : lw_okq (⟨"CubeCartonModel", "wellOf", "()I"⟩, 51) := ⟨⟨by decide +kernel, by decide +kernel⟩, List.mem_of_getElem? (i := 922) (by decide +kernel), List.mem_of_getElem? (i := 1134) (by decide +kernel), List.mem_of_getElem? (i := 1135) (by decide +kernel)⟩
theorem lw_p33 : lw_okq (⟨"CubeCartonModel", "hang", "(I)Z"⟩, 51) := ⟨⟨by decide +kernel, by decide +kernel⟩, List.mem_of_getElem? (i := 922) (by decide +kernel), List.mem_of_getElem? (i := 1138) (by decide +kernel), List.mem_of_getElem? (i := 1139) (by decide +kernel)⟩
theorem lw_p34 : lw_okq (⟨"CubeCartonModel", "padded", "(I)I"⟩, 51) := ⟨⟨by decide +kernel, by decide +kernel⟩, List.mem_of_getElem? (i := 922) (by decide +kernel), List.mem_of_getElem? (i := 1142) (by decide +kernel), List.mem_of_getElem? (i := 1143) (by decide +kernel)⟩
theorem lw_p35 : lw_okq (⟨"CubeCartonModel", "cubeAt", "(III)I"⟩, 51) := ⟨⟨by decide +kernel, by decide +kernel⟩, List.mem_of_getElem? (i := 922) (by decide +kernel), List.mem_of_getElem? (i := 1146) (by decide +kernel), List.mem_of_getElem? (i := 1147) (by decide +kernel)⟩
theorem lw_p36 : lw_okq (⟨"CubeCartonModel", "isJoinedWell", "()Z"⟩, 51) := ⟨⟨by decide +kernel, by decide +kernel⟩, List.mem_of_getElem? (i := 922) (by decide +kernel), List.mem_of_getElem? (i := 1156) (by decide +kernel), List.mem_of_getElem? (i := 1157) (by decide +kernel)⟩
theorem lw_p37 : lw_okq (⟨"CubeCartonModel", "isCornerWell", "(III)Z"⟩, 51) := ⟨⟨by decide +kernel, by decide +kernel⟩, List.mem_of_getElem? (i := 922) (by decide +kernel), List.mem_of_getElem? (i := 1160) (by decide +kernel), List.mem_of_getElem? (i := 1161) (by decide +kernel)⟩
theorem lw_p38 : lw_okq (⟨"CubeCartonModel", "areJoined", "(I)Z"⟩, 51) := ⟨⟨by decide +kernel, by decide +kernel⟩, List.mem_of_getElem? (i := 922) (by decide +kernel), List.mem_of_getElem? (i := 1164) (by decide +kernel), List.mem_of_getElem? (i := 1165) (by decide +kernel)⟩
theorem lw_p39 : lw_okq (⟨"CubeCartonModel", "isEdgeWell", "(IIII)Z"⟩, 51) := ⟨⟨by decide +kernel, by decide +kernel⟩, List.mem_of_getElem? (i := 922) (by decide +kernel), List.mem_of_getElem? (i := 1168) (by decide +kernel), List.mem_of_getElem? (i := 1169) (by decide +kernel)⟩
theorem lw_p40 : lw_okq (⟨"CubeCartonModel", "findSkin", "()V"⟩, 51) := ⟨⟨by decide +kernel, by decide +kernel⟩, List.mem_of_getElem? (i := 922) (by decide +kernel), List.mem_of_getElem? (i := 1176) (by decide +kernel), List.mem_of_getElem? (i := 1177) (by decide +kernel)⟩
theorem lw_p41 : lw_okq (⟨"CubeCartonModel", "isCube", "(III)Z"⟩, 51) := ⟨⟨by decide +kernel, by decide +kernel⟩, List.mem_of_getElem? (i := 922) (by decide +kernel), List.mem_of_getElem? (i := 1180) (by decide +kernel), List.mem_of_getElem? (i := 1181) (by decide +kernel)⟩
theorem lw_p42 : lw_okq (⟨"CubeCartonModel", "findAcross", "(II)V"⟩, 51) := ⟨⟨by decide +kernel, by decide +kernel⟩, List.mem_of_getElem? (i := 922) (by decide +kernel), List.mem_of_getElem? (i := 1201) (by decide +kernel), List.mem_of_getElem? (i := 1202) (by decide +kernel)⟩
theorem lw_p43 : lw_okq (⟨"CubeCartonModel", "squareOf", "(II)I"⟩, 51) := ⟨⟨by decide +kernel, by decide +kernel⟩, List.mem_of_getElem? (i := 922) (by decide +kernel), List.mem_of_getElem? (i := 1211) (by decide +kernel), List.mem_of_getElem? (i := 1212) (by decide +kernel)⟩
theorem lw_p44 : lw_okq (⟨"CubeCartonModel", "lay", "()I"⟩, 51) := ⟨⟨by decide +kernel, by decide +kernel⟩, List.mem_of_getElem? (i := 922) (by decide +kernel), List.mem_of_getElem? (i := 1230) (by decide +kernel), List.mem_of_getElem? (i := 1231) (by decide +kernel)⟩
theorem lw_p45 : lw_okq (⟨"CubeCartonModel", "layAcross", "(II)I"⟩, 51) := ⟨⟨by decide +kernel, by decide +kernel⟩, List.mem_of_getElem? (i := 922) (by decide +kernel), List.mem_of_getElem? (i := 1234) (by decide +kernel), List.mem_of_getElem? (i := 1235) (by decide +kernel)⟩
theorem lw_p46 : lw_okq (⟨"CubeCartonModel", "sort", "()V"⟩, 51) := ⟨⟨by decide +kernel, by decide +kernel⟩, List.mem_of_getElem? (i := 922) (by decide +kernel), List.mem_of_getElem? (i := 1244) (by decide +kernel), List.mem_of_getElem? (i := 1245) (by decide +kernel)⟩
theorem lw_p47 : lw_okq (⟨"CubeCartonModel", "isAhead", "(III)Z"⟩, 51) := ⟨⟨by decide +kernel, by decide +kernel⟩, List.mem_of_getElem? (i := 922) (by decide +kernel), List.mem_of_getElem? (i := 1248) (by decide +kernel), List.mem_of_getElem? (i := 1249) (by decide +kernel)⟩
def lw_privs_3 : List (MethodName × Nat) := [(⟨"CubeCartonModel", "wellOf", "()I"⟩, 51), (⟨"CubeCartonModel", "hang", "(I)Z"⟩, 51), (⟨"CubeCartonModel", "padded", "(I)I"⟩, 51), (⟨"CubeCartonModel", "cubeAt", "(III)I"⟩, 51), (⟨"CubeCartonModel", "isJoinedWell", "()Z"⟩, 51), (⟨"CubeCartonModel", "isCornerWell", "(III)Z"⟩, 51), (⟨"CubeCartonModel", "areJoined", "(I)Z"⟩, 51), (⟨"CubeCartonModel", "isEdgeWell", "(IIII)Z"⟩, 51), (⟨"CubeCartonModel", "findSkin", "()V"⟩, 51), (⟨"CubeCartonModel", "isCube", "(III)Z"⟩, 51), (⟨"CubeCartonModel", "findAcross", "(II)V"⟩, 51), (⟨"CubeCartonModel", "squareOf", "(II)I"⟩, 51), (⟨"CubeCartonModel", "lay", "()I"⟩, 51), (⟨"CubeCartonModel", "layAcross", "(II)I"⟩, 51), (⟨"CubeCartonModel", "sort", "()V"⟩, 51), (⟨"CubeCartonModel", "isAhead", "(III)Z"⟩, 51)]
theorem lw_r3 : ∀ q ∈ lw_privs_3, lw_okq q := List.forall_mem_cons.mpr ⟨lw_p32, List.forall_mem_cons.mpr ⟨lw_p33, List.forall_mem_cons.mpr ⟨lw_p34, List.forall_mem_cons.mpr ⟨lw_p35, List.forall_mem_cons.mpr ⟨lw_p36, List.forall_mem_cons.mpr ⟨lw_p37, List.forall_mem_cons.mpr ⟨lw_p38, List.forall_mem_cons.mpr ⟨lw_p39, List.forall_mem_cons.mpr ⟨lw_p40, List.forall_mem_cons.mpr ⟨lw_p41, List.forall_mem_cons.mpr ⟨lw_p42, List.forall_mem_cons.mpr ⟨lw_p43, List.forall_mem_cons.mpr ⟨lw_p44, List.forall_mem_cons.mpr ⟨lw_p45, List.forall_mem_cons.mpr ⟨lw_p46, List.forall_mem_cons.mpr ⟨lw_p47, fun _ h => absurd h List.not_mem_nil⟩⟩⟩⟩⟩⟩⟩⟩⟩⟩⟩⟩⟩⟩⟩⟩
theorem lw_p48 : lw_okq (⟨"CubeCartonModel", "place", "(IIIII)V"⟩, 51) := ⟨⟨by decide +kernel, by decide +kernel⟩, List.mem_of_getElem? (i := 922) (by decide +kernel), List.mem_of_getElem? (i := 1252) (by decide +kernel), List.mem_of_getElem? (i := 1253) (by decide +kernel)⟩
theorem lw_p49 : lw_okq (⟨"CubeCartonModel", "creases", "()I"⟩, 51) := ⟨⟨by decide +kernel, by decide +kernel⟩, List.mem_of_getElem? (i := 922) (by decide +kernel), List.mem_of_getElem? (i := 1256) (by decide +kernel), List.mem_of_getElem? (i := 1257) (by decide +kernel)⟩
theorem lw_p50 : lw_okq (⟨"CubeCartonModel", "spotAt", "(II)I"⟩, 51) := ⟨⟨by decide +kernel, by decide +kernel⟩, List.mem_of_getElem? (i := 922) (by decide +kernel), List.mem_of_getElem? (i := 1267) (by decide +kernel), List.mem_of_getElem? (i := 1268) (by decide +kernel)⟩
theorem lw_p51 : lw_okq (⟨"CubeCartonModel", "setCrease", "(III)V"⟩, 51) := ⟨⟨by decide +kernel, by decide +kernel⟩, List.mem_of_getElem? (i := 922) (by decide +kernel), List.mem_of_getElem? (i := 1271) (by decide +kernel), List.mem_of_getElem? (i := 1272) (by decide +kernel)⟩
theorem lw_p52 : lw_okq (⟨"CubeCartonModel", "neighbour", "(II)I"⟩, 51) := ⟨⟨by decide +kernel, by decide +kernel⟩, List.mem_of_getElem? (i := 922) (by decide +kernel), List.mem_of_getElem? (i := 1275) (by decide +kernel), List.mem_of_getElem? (i := 1276) (by decide +kernel)⟩
theorem lw_p53 : lw_okq (⟨"CubeCartonModel", "creaseOf", "(II)I"⟩, 51) := ⟨⟨by decide +kernel, by decide +kernel⟩, List.mem_of_getElem? (i := 922) (by decide +kernel), List.mem_of_getElem? (i := 1283) (by decide +kernel), List.mem_of_getElem? (i := 1284) (by decide +kernel)⟩
theorem lw_p54 : lw_okq (⟨"CubeCartonModel", "turned", "(I)V"⟩, 51) := ⟨⟨by decide +kernel, by decide +kernel⟩, List.mem_of_getElem? (i := 922) (by decide +kernel), List.mem_of_getElem? (i := 1294) (by decide +kernel), List.mem_of_getElem? (i := 1295) (by decide +kernel)⟩
theorem lw_p55 : lw_okq (⟨"CubeCartonModel", "foldOf", "()I"⟩, 51) := ⟨⟨by decide +kernel, by decide +kernel⟩, List.mem_of_getElem? (i := 922) (by decide +kernel), List.mem_of_getElem? (i := 1310) (by decide +kernel), List.mem_of_getElem? (i := 1311) (by decide +kernel)⟩
theorem lw_p56 : lw_okq (⟨"CubeCartonModel", "foldAcross", "(II)I"⟩, 51) := ⟨⟨by decide +kernel, by decide +kernel⟩, List.mem_of_getElem? (i := 922) (by decide +kernel), List.mem_of_getElem? (i := 1314) (by decide +kernel), List.mem_of_getElem? (i := 1315) (by decide +kernel)⟩
theorem lw_p57 : lw_okq (⟨"CubeCartonModel", "toward", "(II)I"⟩, 51) := ⟨⟨by decide +kernel, by decide +kernel⟩, List.mem_of_getElem? (i := 922) (by decide +kernel), List.mem_of_getElem? (i := 1318) (by decide +kernel), List.mem_of_getElem? (i := 1319) (by decide +kernel)⟩
theorem lw_p58 : lw_okq (⟨"CubeCartonModel", "isOn", "(IIII)Z"⟩, 51) := ⟨⟨by decide +kernel, by decide +kernel⟩, List.mem_of_getElem? (i := 922) (by decide +kernel), List.mem_of_getElem? (i := 1330) (by decide +kernel), List.mem_of_getElem? (i := 1331) (by decide +kernel)⟩
theorem lw_p59 : lw_okq (⟨"CubeCartonModel", "findForm", "()V"⟩, 51) := ⟨⟨by decide +kernel, by decide +kernel⟩, List.mem_of_getElem? (i := 922) (by decide +kernel), List.mem_of_getElem? (i := 1338) (by decide +kernel), List.mem_of_getElem? (i := 1339) (by decide +kernel)⟩
theorem lw_p60 : lw_okq (⟨"CubeCartonModel", "writeForm", "()V"⟩, 51) := ⟨⟨by decide +kernel, by decide +kernel⟩, List.mem_of_getElem? (i := 922) (by decide +kernel), List.mem_of_getElem? (i := 1342) (by decide +kernel), List.mem_of_getElem? (i := 1343) (by decide +kernel)⟩
theorem lw_p61 : lw_okq (⟨"CubeCartonModel", "compare", "([I[I)I"⟩, 51) := ⟨⟨by decide +kernel, by decide +kernel⟩, List.mem_of_getElem? (i := 922) (by decide +kernel), List.mem_of_getElem? (i := 1346) (by decide +kernel), List.mem_of_getElem? (i := 1347) (by decide +kernel)⟩
theorem lw_p62 : lw_okq (⟨"CubeCartonModel", "findWraps", "(I)V"⟩, 51) := ⟨⟨by decide +kernel, by decide +kernel⟩, List.mem_of_getElem? (i := 922) (by decide +kernel), List.mem_of_getElem? (i := 1366) (by decide +kernel), List.mem_of_getElem? (i := 1367) (by decide +kernel)⟩
theorem lw_p63 : lw_okq (⟨"CubeCartonModel", "doesWrap", "(III)Z"⟩, 51) := ⟨⟨by decide +kernel, by decide +kernel⟩, List.mem_of_getElem? (i := 922) (by decide +kernel), List.mem_of_getElem? (i := 1370) (by decide +kernel), List.mem_of_getElem? (i := 1371) (by decide +kernel)⟩
def lw_privs_4 : List (MethodName × Nat) := [(⟨"CubeCartonModel", "place", "(IIIII)V"⟩, 51), (⟨"CubeCartonModel", "creases", "()I"⟩, 51), (⟨"CubeCartonModel", "spotAt", "(II)I"⟩, 51), (⟨"CubeCartonModel", "setCrease", "(III)V"⟩, 51), (⟨"CubeCartonModel", "neighbour", "(II)I"⟩, 51), (⟨"CubeCartonModel", "creaseOf", "(II)I"⟩, 51), (⟨"CubeCartonModel", "turned", "(I)V"⟩, 51), (⟨"CubeCartonModel", "foldOf", "()I"⟩, 51), (⟨"CubeCartonModel", "foldAcross", "(II)I"⟩, 51), (⟨"CubeCartonModel", "toward", "(II)I"⟩, 51), (⟨"CubeCartonModel", "isOn", "(IIII)Z"⟩, 51), (⟨"CubeCartonModel", "findForm", "()V"⟩, 51), (⟨"CubeCartonModel", "writeForm", "()V"⟩, 51), (⟨"CubeCartonModel", "compare", "([I[I)I"⟩, 51), (⟨"CubeCartonModel", "findWraps", "(I)V"⟩, 51), (⟨"CubeCartonModel", "doesWrap", "(III)Z"⟩, 51)]
theorem lw_r4 : ∀ q ∈ lw_privs_4, lw_okq q := List.forall_mem_cons.mpr ⟨lw_p48, List.forall_mem_cons.mpr ⟨lw_p49, List.forall_mem_cons.mpr ⟨lw_p50, List.forall_mem_cons.mpr ⟨lw_p51, List.forall_mem_cons.mpr ⟨lw_p52, List.forall_mem_cons.mpr ⟨lw_p53, List.forall_mem_cons.mpr ⟨lw_p54, List.forall_mem_cons.mpr ⟨lw_p55, List.forall_mem_cons.mpr ⟨lw_p56, List.forall_mem_cons.mpr ⟨lw_p57, List.forall_mem_cons.mpr ⟨lw_p58, List.forall_mem_cons.mpr ⟨lw_p59, List.forall_mem_cons.mpr ⟨lw_p60, List.forall_mem_cons.mpr ⟨lw_p61, List.forall_mem_cons.mpr ⟨lw_p62, List.forall_mem_cons.mpr ⟨lw_p63, fun _ h => absurd h List.not_mem_nil⟩⟩⟩⟩⟩⟩⟩⟩⟩⟩⟩⟩⟩⟩⟩⟩
theorem lw_p64 : lw_okq (⟨"CubeCartonModel", "wrapAcross", "(II)I"⟩, 51) := ⟨⟨by decide +kernel, by decide +kernel⟩, List.mem_of_getElem? (i := 922) (by decide +kernel), List.mem_of_getElem? (i := 1374) (by decide +kernel), List.mem_of_getElem? (i := 1375) (by decide +kernel)⟩
def lw_privs_5 : List (MethodName × Nat) := [(⟨"CubeCartonModel", "wrapAcross", "(II)I"⟩, 51)]
theorem lw_r5 : ∀ q ∈ lw_privs_5, lw_okq q := List.forall_mem_cons.mpr ⟨lw_p64, fun _ h => absurd h List.not_mem_nil⟩
def lw_privs : List (MethodName × Nat) := lw_privs_1 ++ (lw_privs_2 ++ (lw_privs_3 ++ (lw_privs_4 ++ (lw_privs_5))))
def lw_tbl : List Cond := k2_sels lw_privs ++ tables_1
theorem lw_privs_ok : ∀ q ∈ lw_privs, lw_okq q := by
  show ∀ q ∈ lw_privs_1 ++ (lw_privs_2 ++ (lw_privs_3 ++ (lw_privs_4 ++ (lw_privs_5)))), lw_okq q
  exact List.forall_mem_append.mpr ⟨lw_r1, List.forall_mem_append.mpr ⟨lw_r2, List.forall_mem_append.mpr ⟨lw_r3, List.forall_mem_append.mpr ⟨lw_r4, lw_r5⟩⟩⟩⟩
end
section
def RX0 : String := "CubeCarton$Bench"
def TX0 : u_T := fun k => match k with
  | 0 => ("CubeCarton$Bench", "body", "LCubeCarton$Body;", true)
  | 1 => ("CubeCarton$Bench", "edges", "LCubeCarton$Edges;", true)
  | _ => ("CubeCarton$Bench", "sheet", "LCubeCarton$Sheet;", true)
def tyX0 : Nat → FieldType := fun k => match k with
  | 0 => .object "CubeCarton$Body"
  | 1 => .object "CubeCarton$Edges"
  | _ => .object "CubeCarton$Sheet"
abbrev wsX00 : List Cond := u_ws RX0 TX0 3
theorem nmX0 : ∀ a, a < 3 → ∀ b, b < 3 → a ≠ b → (TX0 a).2.1 ≠ (TX0 b).2.1 := by decide +kernel
theorem tyX0_ok : ∀ k, k < 3 → parseFieldDescriptor (TX0 k).2.2.1 = some (tyX0 k) := by decide +kernel
abbrev cX0_init : ByteArray := prog_2_method_1_code
def yX0_init : MethodName := ⟨RX0, "<init>", "()V"⟩
abbrev cX0_become : ByteArray := prog_2_method_2_code
def yX0_become : MethodName := ⟨RX0, "become", "(LCubeCarton$Bench;)V"⟩
def RX1 : String := "CubeCarton$Body"
def TX1 : u_T := fun k => match k with
  | _ => ("CubeCarton$Body", "layers", "[I", true)
def tyX1 : Nat → FieldType := fun k => match k with
  | _ => .array .int
abbrev wsX10 : List Cond := u_ws RX1 TX1 1
theorem nmX1 : ∀ a, a < 1 → ∀ b, b < 1 → a ≠ b → (TX1 a).2.1 ≠ (TX1 b).2.1 := by decide +kernel
theorem tyX1_ok : ∀ k, k < 1 → parseFieldDescriptor (TX1 k).2.2.1 = some (tyX1 k) := by decide +kernel
abbrev cX1_init : ByteArray := prog_3_method_1_code
def yX1_init : MethodName := ⟨RX1, "<init>", "()V"⟩
abbrev cX1_coordinate : ByteArray := prog_3_method_2_code
def yX1_coordinate : MethodName := ⟨RX1, "coordinate", "(II)I"⟩
abbrev cX1_against : ByteArray := prog_3_method_3_code
def yX1_against : MethodName := ⟨RX1, "against", "(I)I"⟩
abbrev cX1_step : ByteArray := prog_3_method_4_code
def yX1_step : MethodName := ⟨RX1, "step", "(II)I"⟩
abbrev cX1_beyond : ByteArray := prog_3_method_5_code
def yX1_beyond : MethodName := ⟨RX1, "beyond", "(II)I"⟩
abbrev cX1_has : ByteArray := prog_3_method_6_code
def yX1_has : MethodName := ⟨RX1, "has", "(JI)Z"⟩
abbrev cX1_become : ByteArray := prog_3_method_7_code
def yX1_become : MethodName := ⟨RX1, "become", "(LCubeCarton$Body;)V"⟩
abbrev cX1_misses : ByteArray := prog_3_method_8_code
def yX1_misses : MethodName := ⟨RX1, "misses", "(I)Z"⟩
abbrev cX1_bitsOf : ByteArray := prog_3_method_9_code
def yX1_bitsOf : MethodName := ⟨RX1, "bitsOf", "(I)I"⟩
abbrev cX1_put : ByteArray := prog_3_method_10_code
def yX1_put : MethodName := ⟨RX1, "put", "(II)V"⟩
abbrev cX1_take : ByteArray := prog_3_method_11_code
def yX1_take : MethodName := ⟨RX1, "take", "(I)V"⟩
abbrev cX1_cubesIn : ByteArray := prog_3_method_12_code
def yX1_cubesIn : MethodName := ⟨RX1, "cubesIn", "(I)I"⟩
abbrev cX1_cubes : ByteArray := prog_3_method_13_code
def yX1_cubes : MethodName := ⟨RX1, "cubes", "()I"⟩
abbrev cX1_layersThere : ByteArray := prog_3_method_14_code
def yX1_layersThere : MethodName := ⟨RX1, "layersThere", "()I"⟩
abbrev cX1_cells : ByteArray := prog_3_method_15_code
def yX1_cells : MethodName := ⟨RX1, "cells", "()J"⟩
abbrev cX1_faultOf : ByteArray := prog_3_method_16_code
def yX1_faultOf : MethodName := ⟨RX1, "faultOf", "(J)I"⟩
abbrev cX1_meetsBySquares : ByteArray := prog_3_method_17_code
def yX1_meetsBySquares : MethodName := ⟨RX1, "meetsBySquares", "(J)Z"⟩
abbrev cX1_hangs : ByteArray := prog_3_method_18_code
def yX1_hangs : MethodName := ⟨RX1, "hangs", "(J)Z"⟩
abbrev cX1_flood : ByteArray := prog_3_method_19_code
def yX1_flood : MethodName := ⟨RX1, "flood", "(JJ)J"⟩
def RX2 : String := "CubeCarton$Edges"
def TX2 : u_T := fun k => match k with
  | _ => ("CubeCarton$Edges", "sides", "[I", true)
def tyX2 : Nat → FieldType := fun k => match k with
  | _ => .array .int
abbrev wsX20 : List Cond := u_ws RX2 TX2 1
theorem nmX2 : ∀ a, a < 1 → ∀ b, b < 1 → a ≠ b → (TX2 a).2.1 ≠ (TX2 b).2.1 := by decide +kernel
theorem tyX2_ok : ∀ k, k < 1 → parseFieldDescriptor (TX2 k).2.2.1 = some (tyX2 k) := by decide +kernel
abbrev cX2_init : ByteArray := prog_4_method_1_code
def yX2_init : MethodName := ⟨RX2, "<init>", "()V"⟩
abbrev cX2_become : ByteArray := prog_4_method_2_code
def yX2_become : MethodName := ⟨RX2, "become", "(LCubeCarton$Edges;)V"⟩
abbrev cX2_mend : ByteArray := prog_4_method_3_code
def yX2_mend : MethodName := ⟨RX2, "mend", "()V"⟩
abbrev cX2_isCut : ByteArray := prog_4_method_4_code
def yX2_isCut : MethodName := ⟨RX2, "isCut", "(II)Z"⟩
abbrev cX2_mark : ByteArray := prog_4_method_5_code
def yX2_mark : MethodName := ⟨RX2, "mark", "(IIZ)V"⟩
abbrev cX2_marks : ByteArray := prog_4_method_6_code
def yX2_marks : MethodName := ⟨RX2, "marks", "()I"⟩
def RX3 : String := "CubeCarton$Folding"
def TX3 : u_T := fun k => match k with
  | 0 => ("CubeCarton$Folding", "poses", "[I", true)
  | 1 => ("CubeCarton$Folding", "beside", "[I", true)
  | 2 => ("CubeCarton$Folding", "rims", "[I", true)
  | _ => ("CubeCarton$Folding", "spots", "I", false)
def tyX3 : Nat → FieldType := fun k => match k with
  | 0 => .array .int
  | 1 => .array .int
  | 2 => .array .int
  | _ => .int
abbrev wsX30 : List Cond := u_ws RX3 TX3 4
theorem nmX3 : ∀ a, a < 4 → ∀ b, b < 4 → a ≠ b → (TX3 a).2.1 ≠ (TX3 b).2.1 := by decide +kernel
theorem tyX3_ok : ∀ k, k < 4 → parseFieldDescriptor (TX3 k).2.2.1 = some (tyX3 k) := by decide +kernel
abbrev cX3_init : ByteArray := prog_5_method_1_code
def yX3_init : MethodName := ⟨RX3, "<init>", "()V"⟩
abbrev cX3_run : ByteArray := prog_5_method_2_code
def yX3_run : MethodName := ⟨RX3, "run", "(LCubeCarton$Sheet;LCubeCarton$Links;)I"⟩
abbrev cX3_poseOf : ByteArray := prog_5_method_3_code
def yX3_poseOf : MethodName := ⟨RX3, "poseOf", "(II)I"⟩
abbrev cX3_layAll : ByteArray := prog_5_method_4_code
def yX3_layAll : MethodName := ⟨RX3, "layAll", "(LCubeCarton$Sheet;LCubeCarton$Links;)V"⟩
abbrev cX3_heading : ByteArray := prog_5_method_5_code
def yX3_heading : MethodName := ⟨RX3, "heading", "(II)I"⟩
abbrev cX3_cross : ByteArray := prog_5_method_6_code
def yX3_cross : MethodName := ⟨RX3, "cross", "(III)V"⟩
abbrev cX3_agrees : ByteArray := prog_5_method_7_code
def yX3_agrees : MethodName := ⟨RX3, "agrees", "(LCubeCarton$Sheet;LCubeCarton$Links;)Z"⟩
abbrev cX3_liesBeside : ByteArray := prog_5_method_8_code
def yX3_liesBeside : MethodName := ⟨RX3, "liesBeside", "(I)Z"⟩
abbrev cX3_overlaps : ByteArray := prog_5_method_9_code
def yX3_overlaps : MethodName := ⟨RX3, "overlaps", "()Z"⟩
abbrev cX3_leavesNoGap : ByteArray := prog_5_method_10_code
def yX3_leavesNoGap : MethodName := ⟨RX3, "leavesNoGap", "()Z"⟩
abbrev cX3_rim : ByteArray := prog_5_method_11_code
def yX3_rim : MethodName := ⟨RX3, "rim", "(II)I"⟩
abbrev cX3_timesAmongRims : ByteArray := prog_5_method_12_code
def yX3_timesAmongRims : MethodName := ⟨RX3, "timesAmongRims", "(I)I"⟩
def RX4 : String := "CubeCarton$Form"
def TX4 : u_T := fun k => match k with
  | 0 => ("CubeCarton$Form", "least", "[I", true)
  | 1 => ("CubeCarton$Form", "row", "[I", true)
  | 2 => ("CubeCarton$Form", "keys", "[I", true)
  | 3 => ("CubeCarton$Form", "size", "I", false)
  | _ => ("CubeCarton$Form", "times", "I", false)
def tyX4 : Nat → FieldType := fun k => match k with
  | 0 => .array .int
  | 1 => .array .int
  | 2 => .array .int
  | 3 => .int
  | _ => .int
abbrev wsX40 : List Cond := u_ws RX4 TX4 5
theorem nmX4 : ∀ a, a < 5 → ∀ b, b < 5 → a ≠ b → (TX4 a).2.1 ≠ (TX4 b).2.1 := by decide +kernel
theorem tyX4_ok : ∀ k, k < 5 → parseFieldDescriptor (TX4 k).2.2.1 = some (tyX4 k) := by decide +kernel
abbrev cX4_init : ByteArray := prog_6_method_1_code
def yX4_init : MethodName := ⟨RX4, "<init>", "()V"⟩
abbrev cX4_length : ByteArray := prog_6_method_2_code
def yX4_length : MethodName := ⟨RX4, "length", "()I"⟩
abbrev cX4_number : ByteArray := prog_6_method_3_code
def yX4_number : MethodName := ⟨RX4, "number", "(I)I"⟩
abbrev cX4_timesWritten : ByteArray := prog_6_method_4_code
def yX4_timesWritten : MethodName := ⟨RX4, "timesWritten", "()I"⟩
abbrev cX4_matches : ByteArray := prog_6_method_5_code
def yX4_matches : MethodName := ⟨RX4, "matches", "(LCubeCarton$Form;)Z"⟩
abbrev cX4_take : ByteArray := prog_6_method_6_code
def yX4_take : MethodName := ⟨RX4, "take", "(LCubeCarton$Sheet;)V"⟩
abbrev cX4_compare : ByteArray := prog_6_method_7_code
def yX4_compare : MethodName := ⟨RX4, "compare", "([I[I)I"⟩
abbrev cX4_write : ByteArray := prog_6_method_8_code
def yX4_write : MethodName := ⟨RX4, "write", "(LCubeCarton$Sheet;IZ)V"⟩
abbrev cX4_insertKey : ByteArray := prog_6_method_9_code
def yX4_insertKey : MethodName := ⟨RX4, "insertKey", "(II)V"⟩
def RX5 : String := "CubeCarton$Layout"
def TX5 : u_T := fun k => match k with
  | 0 => ("CubeCarton$Layout", "xs", "[I", true)
  | 1 => ("CubeCarton$Layout", "ys", "[I", true)
  | 2 => ("CubeCarton$Layout", "turns", "[I", true)
  | 3 => ("CubeCarton$Layout", "order", "[I", true)
  | 4 => ("CubeCarton$Layout", "squares", "I", false)
  | _ => ("CubeCarton$Layout", "laid", "I", false)
def tyX5 : Nat → FieldType := fun k => match k with
  | 0 => .array .int
  | 1 => .array .int
  | 2 => .array .int
  | 3 => .array .int
  | 4 => .int
  | _ => .int
abbrev wsX50 : List Cond := u_ws RX5 TX5 6
theorem nmX5 : ∀ a, a < 6 → ∀ b, b < 6 → a ≠ b → (TX5 a).2.1 ≠ (TX5 b).2.1 := by decide +kernel
theorem tyX5_ok : ∀ k, k < 6 → parseFieldDescriptor (TX5 k).2.2.1 = some (tyX5 k) := by decide +kernel
abbrev cX5_init : ByteArray := prog_7_method_1_code
def yX5_init : MethodName := ⟨RX5, "<init>", "()V"⟩
abbrev cX5_lay : ByteArray := prog_7_method_2_code
def yX5_lay : MethodName := ⟨RX5, "lay", "(LCubeCarton$Skin;LCubeCarton$Edges;)I"⟩
abbrev cX5_isWithinReach : ByteArray := prog_7_method_3_code
def yX5_isWithinReach : MethodName := ⟨RX5, "isWithinReach", "()Z"⟩
abbrev cX5_drawOn : ByteArray := prog_7_method_4_code
def yX5_drawOn : MethodName := ⟨RX5, "drawOn", "(LCubeCarton$Sheet;LCubeCarton$Skin;LCubeCarton$Edges;)V"⟩
abbrev cX5_layAll : ByteArray := prog_7_method_5_code
def yX5_layAll : MethodName := ⟨RX5, "layAll", "(LCubeCarton$Skin;LCubeCarton$Edges;)V"⟩
abbrev cX5_layOne : ByteArray := prog_7_method_6_code
def yX5_layOne : MethodName := ⟨RX5, "layOne", "(IIII)V"⟩
abbrev cX5_turnBeside : ByteArray := prog_7_method_7_code
def yX5_turnBeside : MethodName := ⟨RX5, "turnBeside", "(LCubeCarton$Skin;II)I"⟩
abbrev cX5_agrees : ByteArray := prog_7_method_8_code
def yX5_agrees : MethodName := ⟨RX5, "agrees", "(LCubeCarton$Skin;LCubeCarton$Edges;)Z"⟩
abbrev cX5_liesBeside : ByteArray := prog_7_method_9_code
def yX5_liesBeside : MethodName := ⟨RX5, "liesBeside", "(LCubeCarton$Skin;II)Z"⟩
abbrev cX5_overlaps : ByteArray := prog_7_method_10_code
def yX5_overlaps : MethodName := ⟨RX5, "overlaps", "()Z"⟩
def RX6 : String := "CubeCarton$Links"
def TX6 : u_T := fun k => match k with
  | 0 => ("CubeCarton$Links", "nexts", "[I", true)
  | 1 => ("CubeCarton$Links", "order", "[I", true)
  | 2 => ("CubeCarton$Links", "steps", "[I", true)
  | 3 => ("CubeCarton$Links", "spots", "I", false)
  | _ => ("CubeCarton$Links", "reached", "I", false)
def tyX6 : Nat → FieldType := fun k => match k with
  | 0 => .array .int
  | 1 => .array .int
  | 2 => .array .int
  | 3 => .int
  | _ => .int
abbrev wsX60 : List Cond := u_ws RX6 TX6 5
theorem nmX6 : ∀ a, a < 5 → ∀ b, b < 5 → a ≠ b → (TX6 a).2.1 ≠ (TX6 b).2.1 := by decide +kernel
theorem tyX6_ok : ∀ k, k < 5 → parseFieldDescriptor (TX6 k).2.2.1 = some (tyX6 k) := by decide +kernel
abbrev cX6_init : ByteArray := prog_8_method_1_code
def yX6_init : MethodName := ⟨RX6, "<init>", "()V"⟩
abbrev cX6_trace : ByteArray := prog_8_method_2_code
def yX6_trace : MethodName := ⟨RX6, "trace", "(LCubeCarton$Sheet;)V"⟩
abbrev cX6_reachAll : ByteArray := prog_8_method_3_code
def yX6_reachAll : MethodName := ⟨RX6, "reachAll", "()V"⟩
abbrev cX6_hangTogether : ByteArray := prog_8_method_4_code
def yX6_hangTogether : MethodName := ⟨RX6, "hangTogether", "()Z"⟩
abbrev cX6_next : ByteArray := prog_8_method_5_code
def yX6_next : MethodName := ⟨RX6, "next", "(II)I"⟩
abbrev cX6_inOrder : ByteArray := prog_8_method_6_code
def yX6_inOrder : MethodName := ⟨RX6, "inOrder", "(I)I"⟩
abbrev cX6_reachedFrom : ByteArray := prog_8_method_7_code
def yX6_reachedFrom : MethodName := ⟨RX6, "reachedFrom", "(I)I"⟩
abbrev cX6_reachedBy : ByteArray := prog_8_method_8_code
def yX6_reachedBy : MethodName := ⟨RX6, "reachedBy", "(I)I"⟩
def RX7 : String := "CubeCarton$Memory"
def TX7 : u_T := fun k => match k with
  | 0 => ("CubeCarton$Memory", "ring", "[LCubeCarton$Bench;", true)
  | 1 => ("CubeCarton$Memory", "oldest", "I", false)
  | _ => ("CubeCarton$Memory", "kept", "I", false)
def tyX7 : Nat → FieldType := fun k => match k with
  | 0 => .array (.object "CubeCarton$Bench")
  | 1 => .int
  | _ => .int
abbrev wsX70 : List Cond := u_ws RX7 TX7 3
theorem nmX7 : ∀ a, a < 3 → ∀ b, b < 3 → a ≠ b → (TX7 a).2.1 ≠ (TX7 b).2.1 := by decide +kernel
theorem tyX7_ok : ∀ k, k < 3 → parseFieldDescriptor (TX7 k).2.2.1 = some (tyX7 k) := by decide +kernel
abbrev cX7_init : ByteArray := prog_9_method_1_code
def yX7_init : MethodName := ⟨RX7, "<init>", "()V"⟩
abbrev cX7_size : ByteArray := prog_9_method_2_code
def yX7_size : MethodName := ⟨RX7, "size", "()I"⟩
abbrev cX7_keep : ByteArray := prog_9_method_3_code
def yX7_keep : MethodName := ⟨RX7, "keep", "(LCubeCarton$Bench;)V"⟩
abbrev cX7_giveBack : ByteArray := prog_9_method_4_code
def yX7_giveBack : MethodName := ⟨RX7, "giveBack", "(LCubeCarton$Bench;)V"⟩
def RX8 : String := "CubeCarton$Sheet"
def TX8 : u_T := fun k => match k with
  | 0 => ("CubeCarton$Sheet", "xs", "[I", true)
  | 1 => ("CubeCarton$Sheet", "ys", "[I", true)
  | 2 => ("CubeCarton$Sheet", "creases", "[I", true)
  | _ => ("CubeCarton$Sheet", "spots", "I", false)
def tyX8 : Nat → FieldType := fun k => match k with
  | 0 => .array .int
  | 1 => .array .int
  | 2 => .array .int
  | _ => .int
abbrev wsX80 : List Cond := u_ws RX8 TX8 4
theorem nmX8 : ∀ a, a < 4 → ∀ b, b < 4 → a ≠ b → (TX8 a).2.1 ≠ (TX8 b).2.1 := by decide +kernel
theorem tyX8_ok : ∀ k, k < 4 → parseFieldDescriptor (TX8 k).2.2.1 = some (tyX8 k) := by decide +kernel
abbrev cX8_init : ByteArray := prog_10_method_1_code
def yX8_init : MethodName := ⟨RX8, "<init>", "()V"⟩
abbrev cX8_stepX : ByteArray := prog_10_method_2_code
def yX8_stepX : MethodName := ⟨RX8, "stepX", "(I)I"⟩
abbrev cX8_stepY : ByteArray := prog_10_method_3_code
def yX8_stepY : MethodName := ⟨RX8, "stepY", "(I)I"⟩
abbrev cX8_mirrored : ByteArray := prog_10_method_4_code
def yX8_mirrored : MethodName := ⟨RX8, "mirrored", "(I)I"⟩
abbrev cX8_size : ByteArray := prog_10_method_5_code
def yX8_size : MethodName := ⟨RX8, "size", "()I"⟩
abbrev cX8_xOf : ByteArray := prog_10_method_6_code
def yX8_xOf : MethodName := ⟨RX8, "xOf", "(I)I"⟩
abbrev cX8_yOf : ByteArray := prog_10_method_7_code
def yX8_yOf : MethodName := ⟨RX8, "yOf", "(I)I"⟩
abbrev cX8_creaseAt : ByteArray := prog_10_method_8_code
def yX8_creaseAt : MethodName := ⟨RX8, "creaseAt", "(II)I"⟩
abbrev cX8_creasesOf : ByteArray := prog_10_method_9_code
def yX8_creasesOf : MethodName := ⟨RX8, "creasesOf", "(I)I"⟩
abbrev cX8_creaseCount : ByteArray := prog_10_method_10_code
def yX8_creaseCount : MethodName := ⟨RX8, "creaseCount", "()I"⟩
abbrev cX8_drop : ByteArray := prog_10_method_11_code
def yX8_drop : MethodName := ⟨RX8, "drop", "()V"⟩
abbrev cX8_become : ByteArray := prog_10_method_12_code
def yX8_become : MethodName := ⟨RX8, "become", "(LCubeCarton$Sheet;)V"⟩
abbrev cX8_find : ByteArray := prog_10_method_13_code
def yX8_find : MethodName := ⟨RX8, "find", "(II)I"⟩
abbrev cX8_beside : ByteArray := prog_10_method_14_code
def yX8_beside : MethodName := ⟨RX8, "beside", "(II)I"⟩
abbrev cX8_firstNotBefore : ByteArray := prog_10_method_15_code
def yX8_firstNotBefore : MethodName := ⟨RX8, "firstNotBefore", "(II)I"⟩
abbrev cX8_add : ByteArray := prog_10_method_16_code
def yX8_add : MethodName := ⟨RX8, "add", "(II)I"⟩
abbrev cX8_remove : ByteArray := prog_10_method_17_code
def yX8_remove : MethodName := ⟨RX8, "remove", "(I)V"⟩
abbrev cX8_shift : ByteArray := prog_10_method_18_code
def yX8_shift : MethodName := ⟨RX8, "shift", "(III)V"⟩
abbrev cX8_join : ByteArray := prog_10_method_19_code
def yX8_join : MethodName := ⟨RX8, "join", "(IIII)V"⟩
abbrev cX8_becomeTurned : ByteArray := prog_10_method_20_code
def yX8_becomeTurned : MethodName := ⟨RX8, "becomeTurned", "(LCubeCarton$Sheet;IZ)V"⟩
abbrev cX8_turnedX : ByteArray := prog_10_method_21_code
def yX8_turnedX : MethodName := ⟨RX8, "turnedX", "(IIZ)I"⟩
abbrev cX8_turnedY : ByteArray := prog_10_method_22_code
def yX8_turnedY : MethodName := ⟨RX8, "turnedY", "(IIZ)I"⟩
abbrev cX8_turnedCrease : ByteArray := prog_10_method_23_code
def yX8_turnedCrease : MethodName := ⟨RX8, "turnedCrease", "(IIIZ)I"⟩
def RX9 : String := "CubeCarton$Skin"
def TX9 : u_T := fun k => match k with
  | 0 => ("CubeCarton$Skin", "places", "[I", true)
  | 1 => ("CubeCarton$Skin", "directions", "[I", true)
  | 2 => ("CubeCarton$Skin", "numbers", "[I", true)
  | 3 => ("CubeCarton$Skin", "leads", "[I", true)
  | 4 => ("CubeCarton$Skin", "bends", "[I", true)
  | 5 => ("CubeCarton$Skin", "cells", "J", false)
  | 6 => ("CubeCarton$Skin", "squares", "I", false)
  | _ => ("CubeCarton$Skin", "fault", "I", false)
def tyX9 : Nat → FieldType := fun k => match k with
  | 0 => .array .int
  | 1 => .array .int
  | 2 => .array .int
  | 3 => .array .int
  | 4 => .array .int
  | 5 => .long
  | 6 => .int
  | _ => .int
abbrev wsX90 : List Cond := u_ws RX9 TX9 8
theorem nmX9 : ∀ a, a < 8 → ∀ b, b < 8 → a ≠ b → (TX9 a).2.1 ≠ (TX9 b).2.1 := by decide +kernel
theorem tyX9_ok : ∀ k, k < 8 → parseFieldDescriptor (TX9 k).2.2.1 = some (tyX9 k) := by decide +kernel
abbrev cX9_init : ByteArray := prog_11_method_1_code
def yX9_init : MethodName := ⟨RX9, "<init>", "()V"⟩
abbrev cX9_take : ByteArray := prog_11_method_2_code
def yX9_take : MethodName := ⟨RX9, "take", "(LCubeCarton$Body;)V"⟩
abbrev cX9_fault : ByteArray := prog_11_method_3_code
def yX9_fault : MethodName := ⟨RX9, "fault", "()I"⟩
abbrev cX9_size : ByteArray := prog_11_method_4_code
def yX9_size : MethodName := ⟨RX9, "size", "()I"⟩
abbrev cX9_placeOf : ByteArray := prog_11_method_5_code
def yX9_placeOf : MethodName := ⟨RX9, "placeOf", "(I)I"⟩
abbrev cX9_directionOf : ByteArray := prog_11_method_6_code
def yX9_directionOf : MethodName := ⟨RX9, "directionOf", "(I)I"⟩
abbrev cX9_squareAcross : ByteArray := prog_11_method_7_code
def yX9_squareAcross : MethodName := ⟨RX9, "squareAcross", "(II)I"⟩
abbrev cX9_sideAcross : ByteArray := prog_11_method_8_code
def yX9_sideAcross : MethodName := ⟨RX9, "sideAcross", "(II)I"⟩
abbrev cX9_bendAcross : ByteArray := prog_11_method_9_code
def yX9_bendAcross : MethodName := ⟨RX9, "bendAcross", "(II)I"⟩
abbrev cX9_numberSquares : ByteArray := prog_11_method_10_code
def yX9_numberSquares : MethodName := ⟨RX9, "numberSquares", "()V"⟩
abbrev cX9_lead : ByteArray := prog_11_method_11_code
def yX9_lead : MethodName := ⟨RX9, "lead", "(II)V"⟩
abbrev cX9_note : ByteArray := prog_11_method_12_code
def yX9_note : MethodName := ⟨RX9, "note", "(IIIIII)V"⟩
abbrev cX9_sideLooking : ByteArray := prog_11_method_13_code
def yX9_sideLooking : MethodName := ⟨RX9, "sideLooking", "(II)I"⟩
def RX10 : String := "CubeCarton$Wrapping"
def TX10 : u_T := fun k => match k with
  | 0 => ("CubeCarton$Wrapping", "squares", "[I", true)
  | 1 => ("CubeCarton$Wrapping", "turns", "[I", true)
  | 2 => ("CubeCarton$Wrapping", "spotOn", "[I", true)
  | 3 => ("CubeCarton$Wrapping", "found", "[I", true)
  | _ => ("CubeCarton$Wrapping", "many", "I", false)
def tyX10 : Nat → FieldType := fun k => match k with
  | 0 => .array .int
  | 1 => .array .int
  | 2 => .array .int
  | 3 => .array .int
  | _ => .int
abbrev wsX100 : List Cond := u_ws RX10 TX10 5
theorem nmX10 : ∀ a, a < 5 → ∀ b, b < 5 → a ≠ b → (TX10 a).2.1 ≠ (TX10 b).2.1 := by decide +kernel
theorem tyX10_ok : ∀ k, k < 5 → parseFieldDescriptor (TX10 k).2.2.1 = some (tyX10 k) := by decide +kernel
abbrev cX10_init : ByteArray := prog_12_method_1_code
def yX10_init : MethodName := ⟨RX10, "<init>", "()V"⟩
abbrev cX10_ways : ByteArray := prog_12_method_2_code
def yX10_ways : MethodName := ⟨RX10, "ways", "()I"⟩
abbrev cX10_squareOf : ByteArray := prog_12_method_3_code
def yX10_squareOf : MethodName := ⟨RX10, "squareOf", "(I)I"⟩
abbrev cX10_turnOf : ByteArray := prog_12_method_4_code
def yX10_turnOf : MethodName := ⟨RX10, "turnOf", "(I)I"⟩
abbrev cX10_isTurnedOver : ByteArray := prog_12_method_5_code
def yX10_isTurnedOver : MethodName := ⟨RX10, "isTurnedOver", "(I)Z"⟩
abbrev cX10_seek : ByteArray := prog_12_method_6_code
def yX10_seek : MethodName := ⟨RX10, "seek", "(LCubeCarton$Sheet;LCubeCarton$Links;LCubeCarton$Skin;)V"⟩
abbrev cX10_fits : ByteArray := prog_12_method_7_code
def yX10_fits : MethodName := ⟨RX10, "fits", "(ILCubeCarton$Links;LCubeCarton$Skin;IZ)Z"⟩
abbrev cX10_lay : ByteArray := prog_12_method_8_code
def yX10_lay : MethodName := ⟨RX10, "lay", "(II)V"⟩
abbrev cX10_landing : ByteArray := prog_12_method_9_code
def yX10_landing : MethodName := ⟨RX10, "landing", "(LCubeCarton$Skin;IIZ)I"⟩
def RX11 : String := "CubeCarton"
def TX11 : u_T := fun k => match k with
  | 0 => ("CubeCarton", "bench", "LCubeCarton$Bench;", true)
  | 1 => ("CubeCarton", "memory", "LCubeCarton$Memory;", true)
  | 2 => ("CubeCarton", "shelves", "[LCubeCarton$Sheet;", true)
  | 3 => ("CubeCarton", "hull", "LCubeCarton$Skin;", true)
  | 4 => ("CubeCarton", "layout", "LCubeCarton$Layout;", true)
  | 5 => ("CubeCarton", "links", "LCubeCarton$Links;", true)
  | 6 => ("CubeCarton", "folding", "LCubeCarton$Folding;", true)
  | 7 => ("CubeCarton", "wrapping", "LCubeCarton$Wrapping;", true)
  | 8 => ("CubeCarton", "formInHand", "LCubeCarton$Form;", true)
  | 9 => ("CubeCarton", "formOnShelf", "LCubeCarton$Form;", true)
  | _ => ("CubeCarton", "spare", "LCubeCarton$Sheet;", true)
def tyX11 : Nat → FieldType := fun k => match k with
  | 0 => .object "CubeCarton$Bench"
  | 1 => .object "CubeCarton$Memory"
  | 2 => .array (.object "CubeCarton$Sheet")
  | 3 => .object "CubeCarton$Skin"
  | 4 => .object "CubeCarton$Layout"
  | 5 => .object "CubeCarton$Links"
  | 6 => .object "CubeCarton$Folding"
  | 7 => .object "CubeCarton$Wrapping"
  | 8 => .object "CubeCarton$Form"
  | 9 => .object "CubeCarton$Form"
  | _ => .object "CubeCarton$Sheet"
abbrev wsX110 : List Cond := u_ws RX11 TX11 11
theorem nmX11 : ∀ a, a < 11 → ∀ b, b < 11 → a ≠ b → (TX11 a).2.1 ≠ (TX11 b).2.1 := by decide +kernel
theorem tyX11_ok : ∀ k, k < 11 → parseFieldDescriptor (TX11 k).2.2.1 = some (tyX11 k) := by decide +kernel
abbrev cX11_init : ByteArray := prog_1_method_1_code
def yX11_init : MethodName := ⟨RX11, "<init>", "()V"⟩
abbrev cX11_layer : ByteArray := prog_1_method_2_code
def yX11_layer : MethodName := ⟨RX11, "layer", "(II)I"⟩
abbrev cX11_lose : ByteArray := prog_1_method_3_code
def yX11_lose : MethodName := ⟨RX11, "lose", "(I)I"⟩
abbrev cX11_cube : ByteArray := prog_1_method_4_code
def yX11_cube : MethodName := ⟨RX11, "cube", "(III)I"⟩
abbrev cX11_copy : ByteArray := prog_1_method_5_code
def yX11_copy : MethodName := ⟨RX11, "copy", "(IIIII)I"⟩
abbrev cX11_box : ByteArray := prog_1_method_6_code
def yX11_box : MethodName := ⟨RX11, "box", "(III)I"⟩
abbrev cX11_well : ByteArray := prog_1_method_7_code
def yX11_well : MethodName := ⟨RX11, "well", "()I"⟩
abbrev cX11_skin : ByteArray := prog_1_method_8_code
def yX11_skin : MethodName := ⟨RX11, "skin", "()I"⟩
abbrev cX11_square : ByteArray := prog_1_method_9_code
def yX11_square : MethodName := ⟨RX11, "square", "(II)I"⟩
abbrev cX11_across : ByteArray := prog_1_method_10_code
def yX11_across : MethodName := ⟨RX11, "across", "(III)I"⟩
abbrev cX11_cut : ByteArray := prog_1_method_11_code
def yX11_cut : MethodName := ⟨RX11, "cut", "(III)I"⟩
abbrev cX11_cuts : ByteArray := prog_1_method_12_code
def yX11_cuts : MethodName := ⟨RX11, "cuts", "()I"⟩
abbrev cX11_open : ByteArray := prog_1_method_13_code
def yX11_open : MethodName := ⟨RX11, "open", "()I"⟩
abbrev cX11_spot : ByteArray := prog_1_method_14_code
def yX11_spot : MethodName := ⟨RX11, "spot", "(III)I"⟩
abbrev cX11_crease : ByteArray := prog_1_method_15_code
def yX11_crease : MethodName := ⟨RX11, "crease", "(IIII)I"⟩
abbrev cX11_turn : ByteArray := prog_1_method_16_code
def yX11_turn : MethodName := ⟨RX11, "turn", "(I)I"⟩
abbrev cX11_clear : ByteArray := prog_1_method_17_code
def yX11_clear : MethodName := ⟨RX11, "clear", "()I"⟩
abbrev cX11_told : ByteArray := prog_1_method_18_code
def yX11_told : MethodName := ⟨RX11, "told", "(II)I"⟩
abbrev cX11_fold : ByteArray := prog_1_method_19_code
def yX11_fold : MethodName := ⟨RX11, "fold", "()I"⟩
abbrev cX11_where : ByteArray := prog_1_method_20_code
def yX11_where : MethodName := ⟨RX11, "where", "(II)I"⟩
abbrev cX11_closed : ByteArray := prog_1_method_21_code
def yX11_closed : MethodName := ⟨RX11, "closed", "()I"⟩
abbrev cX11_form : ByteArray := prog_1_method_22_code
def yX11_form : MethodName := ⟨RX11, "form", "(I)I"⟩
abbrev cX11_same : ByteArray := prog_1_method_23_code
def yX11_same : MethodName := ⟨RX11, "same", "()I"⟩
abbrev cX11_shelve : ByteArray := prog_1_method_24_code
def yX11_shelve : MethodName := ⟨RX11, "shelve", "(I)I"⟩
abbrev cX11_alike : ByteArray := prog_1_method_25_code
def yX11_alike : MethodName := ⟨RX11, "alike", "(I)I"⟩
abbrev cX11_wraps : ByteArray := prog_1_method_26_code
def yX11_wraps : MethodName := ⟨RX11, "wraps", "()I"⟩
abbrev cX11_way : ByteArray := prog_1_method_27_code
def yX11_way : MethodName := ⟨RX11, "way", "(II)I"⟩
abbrev cX11_undo : ByteArray := prog_1_method_28_code
def yX11_undo : MethodName := ⟨RX11, "undo", "()I"⟩
abbrev cX11_count : ByteArray := prog_1_method_29_code
def yX11_count : MethodName := ⟨RX11, "count", "(I)I"⟩
abbrev cX11_bodyHasChanged : ByteArray := prog_1_method_30_code
def yX11_bodyHasChanged : MethodName := ⟨RX11, "bodyHasChanged", "()V"⟩
abbrev cX11_isWithin : ByteArray := prog_1_method_31_code
def yX11_isWithin : MethodName := ⟨RX11, "isWithin", "(II)Z"⟩
abbrev cX11_isLayer : ByteArray := prog_1_method_32_code
def yX11_isLayer : MethodName := ⟨RX11, "isLayer", "(I)Z"⟩
abbrev cX11_isSwitch : ByteArray := prog_1_method_33_code
def yX11_isSwitch : MethodName := ⟨RX11, "isSwitch", "(I)Z"⟩
abbrev cX11_isLength : ByteArray := prog_1_method_34_code
def yX11_isLength : MethodName := ⟨RX11, "isLength", "(I)Z"⟩
abbrev cX11_isOnTable : ByteArray := prog_1_method_35_code
def yX11_isOnTable : MethodName := ⟨RX11, "isOnTable", "(I)Z"⟩
abbrev cX11_arePlaces : ByteArray := prog_1_method_36_code
def yX11_arePlaces : MethodName := ⟨RX11, "arePlaces", "(II)Z"⟩
abbrev cX11_toldStep : ByteArray := prog_1_method_37_code
def yX11_toldStep : MethodName := ⟨RX11, "toldStep", "(I)I"⟩
abbrev cX11_creaseMeant : ByteArray := prog_1_method_38_code
def yX11_creaseMeant : MethodName := ⟨RX11, "creaseMeant", "(I)I"⟩
def RX12 : String := "CubeCartonModel"
def TX12 : u_T := fun k => match k with
  | 0 => ("CubeCartonModel", "thrown", "I", false)
  | 1 => ("CubeCartonModel", "there", "[I", true)
  | 2 => ("CubeCartonModel", "cubes", "[I", true)
  | 3 => ("CubeCartonModel", "cut", "[I", true)
  | 4 => ("CubeCartonModel", "spots", "I", false)
  | 5 => ("CubeCartonModel", "spotX", "[I", true)
  | 6 => ("CubeCartonModel", "spotY", "[I", true)
  | 7 => ("CubeCartonModel", "right", "[I", true)
  | 8 => ("CubeCartonModel", "up", "[I", true)
  | 9 => ("CubeCartonModel", "shelfLong", "[I", true)
  | 10 => ("CubeCartonModel", "shelves", "[I", true)
  | 11 => ("CubeCartonModel", "old", "[I", true)
  | 12 => ("CubeCartonModel", "keptEnd", "I", false)
  | 13 => ("CubeCartonModel", "kept", "I", false)
  | 14 => ("CubeCartonModel", "pen", "I", false)
  | 15 => ("CubeCartonModel", "seen", "[I", true)
  | 16 => ("CubeCartonModel", "around", "[I", true)
  | 17 => ("CubeCartonModel", "squares", "I", false)
  | 18 => ("CubeCartonModel", "squareCube", "[I", true)
  | 19 => ("CubeCartonModel", "squareDirection", "[I", true)
  | 20 => ("CubeCartonModel", "squareAt", "[I", true)
  | 21 => ("CubeCartonModel", "acrossSquare", "I", false)
  | 22 => ("CubeCartonModel", "acrossSide", "I", false)
  | 23 => ("CubeCartonModel", "acrossHow", "I", false)
  | 24 => ("CubeCartonModel", "laid", "[I", true)
  | 25 => ("CubeCartonModel", "laidX", "[I", true)
  | 26 => ("CubeCartonModel", "laidY", "[I", true)
  | 27 => ("CubeCartonModel", "laidTurn", "[I", true)
  | 28 => ("CubeCartonModel", "newRight", "[I", true)
  | 29 => ("CubeCartonModel", "newUp", "[I", true)
  | 30 => ("CubeCartonModel", "folded", "[I", true)
  | 31 => ("CubeCartonModel", "midX", "[I", true)
  | 32 => ("CubeCartonModel", "midY", "[I", true)
  | 33 => ("CubeCartonModel", "midZ", "[I", true)
  | 34 => ("CubeCartonModel", "rightTo", "[I", true)
  | 35 => ("CubeCartonModel", "upTo", "[I", true)
  | 36 => ("CubeCartonModel", "faceTo", "[I", true)
  | 37 => ("CubeCartonModel", "form", "[I", true)
  | 38 => ("CubeCartonModel", "written", "[I", true)
  | 39 => ("CubeCartonModel", "sameMany", "I", false)
  | 40 => ("CubeCartonModel", "onSquare", "[I", true)
  | 41 => ("CubeCartonModel", "onTurn", "[I", true)
  | 42 => ("CubeCartonModel", "isTaken", "[Z", true)
  | 43 => ("CubeCartonModel", "queue", "[I", true)
  | 44 => ("CubeCartonModel", "queued", "I", false)
  | 45 => ("CubeCartonModel", "wrapMany", "I", false)
  | 46 => ("CubeCartonModel", "wrapSquare", "I", false)
  | 47 => ("CubeCartonModel", "wrapTurn", "I", false)
  | 48 => ("CubeCartonModel", "wrapOver", "I", false)
  | 49 => ("CubeCartonModel", "firstX", "I", false)
  | _ => ("CubeCartonModel", "firstY", "I", false)
def tyX12 : Nat → FieldType := fun k => match k with
  | 0 => .int
  | 1 => .array .int
  | 2 => .array .int
  | 3 => .array .int
  | 4 => .int
  | 5 => .array .int
  | 6 => .array .int
  | 7 => .array .int
  | 8 => .array .int
  | 9 => .array .int
  | 10 => .array .int
  | 11 => .array .int
  | 12 => .int
  | 13 => .int
  | 14 => .int
  | 15 => .array .int
  | 16 => .array .int
  | 17 => .int
  | 18 => .array .int
  | 19 => .array .int
  | 20 => .array .int
  | 21 => .int
  | 22 => .int
  | 23 => .int
  | 24 => .array .int
  | 25 => .array .int
  | 26 => .array .int
  | 27 => .array .int
  | 28 => .array .int
  | 29 => .array .int
  | 30 => .array .int
  | 31 => .array .int
  | 32 => .array .int
  | 33 => .array .int
  | 34 => .array .int
  | 35 => .array .int
  | 36 => .array .int
  | 37 => .array .int
  | 38 => .array .int
  | 39 => .int
  | 40 => .array .int
  | 41 => .array .int
  | 42 => .array .boolean
  | 43 => .array .int
  | 44 => .int
  | 45 => .int
  | 46 => .int
  | 47 => .int
  | 48 => .int
  | 49 => .int
  | _ => .int
abbrev wsX120 : List Cond := u_ws RX12 TX12 51
theorem nmX12 : ∀ a, a < 51 → ∀ b, b < 51 → a ≠ b → (TX12 a).2.1 ≠ (TX12 b).2.1 := by decide +kernel
theorem tyX12_ok : ∀ k, k < 51 → parseFieldDescriptor (TX12 k).2.2.1 = some (tyX12 k) := by decide +kernel
abbrev cX12_init : ByteArray := prog_14_method_1_code
def yX12_init : MethodName := ⟨RX12, "<init>", "()V"⟩
abbrev cX12_in : ByteArray := prog_14_method_3_code
def yX12_in : MethodName := ⟨RX12, "in", "(III)Z"⟩
abbrev cX12_write : ByteArray := prog_14_method_4_code
def yX12_write : MethodName := ⟨RX12, "write", "([II)V"⟩
abbrev cX12_read : ByteArray := prog_14_method_5_code
def yX12_read : MethodName := ⟨RX12, "read", "([II)V"⟩
abbrev cX12_keep : ByteArray := prog_14_method_6_code
def yX12_keep : MethodName := ⟨RX12, "keep", "()V"⟩
abbrev cX12_undo : ByteArray := prog_14_method_7_code
def yX12_undo : MethodName := ⟨RX12, "undo", "()I"⟩
abbrev cX12_change : ByteArray := prog_14_method_8_code
def yX12_change : MethodName := ⟨RX12, "change", "()V"⟩
abbrev cX12_cubesIn : ByteArray := prog_14_method_9_code
def yX12_cubesIn : MethodName := ⟨RX12, "cubesIn", "(I)I"⟩
abbrev cX12_layer : ByteArray := prog_14_method_10_code
def yX12_layer : MethodName := ⟨RX12, "layer", "(II)I"⟩
abbrev cX12_lose : ByteArray := prog_14_method_11_code
def yX12_lose : MethodName := ⟨RX12, "lose", "(I)I"⟩
abbrev cX12_cube : ByteArray := prog_14_method_12_code
def yX12_cube : MethodName := ⟨RX12, "cube", "(III)I"⟩
abbrev cX12_copy : ByteArray := prog_14_method_13_code
def yX12_copy : MethodName := ⟨RX12, "copy", "(IIIII)I"⟩
abbrev cX12_box : ByteArray := prog_14_method_14_code
def yX12_box : MethodName := ⟨RX12, "box", "(III)I"⟩
abbrev cX12_cubeAt : ByteArray := prog_14_method_15_code
def yX12_cubeAt : MethodName := ⟨RX12, "cubeAt", "(III)I"⟩
abbrev cX12_alongOf : ByteArray := prog_14_method_16_code
def yX12_alongOf : MethodName := ⟨RX12, "alongOf", "(II)I"⟩
abbrev cX12_padded : ByteArray := prog_14_method_17_code
def yX12_padded : MethodName := ⟨RX12, "padded", "(I)I"⟩
abbrev cX12_step : ByteArray := prog_14_method_18_code
def yX12_step : MethodName := ⟨RX12, "step", "(II)I"⟩
abbrev cX12_hang : ByteArray := prog_14_method_19_code
def yX12_hang : MethodName := ⟨RX12, "hang", "(I)Z"⟩
abbrev cX12_areJoined : ByteArray := prog_14_method_20_code
def yX12_areJoined : MethodName := ⟨RX12, "areJoined", "(I)Z"⟩
abbrev cX12_isCornerWell : ByteArray := prog_14_method_21_code
def yX12_isCornerWell : MethodName := ⟨RX12, "isCornerWell", "(III)Z"⟩
abbrev cX12_isEdgeWell : ByteArray := prog_14_method_22_code
def yX12_isEdgeWell : MethodName := ⟨RX12, "isEdgeWell", "(IIII)Z"⟩
abbrev cX12_isJoinedWell : ByteArray := prog_14_method_23_code
def yX12_isJoinedWell : MethodName := ⟨RX12, "isJoinedWell", "()Z"⟩
abbrev cX12_wellOf : ByteArray := prog_14_method_24_code
def yX12_wellOf : MethodName := ⟨RX12, "wellOf", "()I"⟩
abbrev cX12_well : ByteArray := prog_14_method_25_code
def yX12_well : MethodName := ⟨RX12, "well", "()I"⟩
abbrev cX12_xOf : ByteArray := prog_14_method_26_code
def yX12_xOf : MethodName := ⟨RX12, "xOf", "(I)I"⟩
abbrev cX12_yOf : ByteArray := prog_14_method_27_code
def yX12_yOf : MethodName := ⟨RX12, "yOf", "(I)I"⟩
abbrev cX12_zOf : ByteArray := prog_14_method_28_code
def yX12_zOf : MethodName := ⟨RX12, "zOf", "(I)I"⟩
abbrev cX12_isCube : ByteArray := prog_14_method_29_code
def yX12_isCube : MethodName := ⟨RX12, "isCube", "(III)Z"⟩
abbrev cX12_cubeBy : ByteArray := prog_14_method_30_code
def yX12_cubeBy : MethodName := ⟨RX12, "cubeBy", "(II)I"⟩
abbrev cX12_findSkin : ByteArray := prog_14_method_31_code
def yX12_findSkin : MethodName := ⟨RX12, "findSkin", "()V"⟩
abbrev cX12_squareOf : ByteArray := prog_14_method_32_code
def yX12_squareOf : MethodName := ⟨RX12, "squareOf", "(II)I"⟩
abbrev cX12_looks : ByteArray := prog_14_method_33_code
def yX12_looks : MethodName := ⟨RX12, "looks", "(II)I"⟩
abbrev cX12_edgeAt : ByteArray := prog_14_method_34_code
def yX12_edgeAt : MethodName := ⟨RX12, "edgeAt", "(IIII)I"⟩
abbrev cX12_findAcross : ByteArray := prog_14_method_35_code
def yX12_findAcross : MethodName := ⟨RX12, "findAcross", "(II)V"⟩
abbrev cX12_skin : ByteArray := prog_14_method_36_code
def yX12_skin : MethodName := ⟨RX12, "skin", "()I"⟩
abbrev cX12_square : ByteArray := prog_14_method_37_code
def yX12_square : MethodName := ⟨RX12, "square", "(II)I"⟩
abbrev cX12_across : ByteArray := prog_14_method_38_code
def yX12_across : MethodName := ⟨RX12, "across", "(III)I"⟩
abbrev cX12_cut : ByteArray := prog_14_method_39_code
def yX12_cut : MethodName := ⟨RX12, "cut", "(III)I"⟩
abbrev cX12_cuts : ByteArray := prog_14_method_40_code
def yX12_cuts : MethodName := ⟨RX12, "cuts", "()I"⟩
abbrev cX12_stepX : ByteArray := prog_14_method_41_code
def yX12_stepX : MethodName := ⟨RX12, "stepX", "(I)I"⟩
abbrev cX12_stepY : ByteArray := prog_14_method_42_code
def yX12_stepY : MethodName := ⟨RX12, "stepY", "(I)I"⟩
abbrev cX12_layAcross : ByteArray := prog_14_method_43_code
def yX12_layAcross : MethodName := ⟨RX12, "layAcross", "(II)I"⟩
abbrev cX12_lay : ByteArray := prog_14_method_44_code
def yX12_lay : MethodName := ⟨RX12, "lay", "()I"⟩
abbrev cX12_open : ByteArray := prog_14_method_45_code
def yX12_open : MethodName := ⟨RX12, "open", "()I"⟩
abbrev cX12_isAhead : ByteArray := prog_14_method_46_code
def yX12_isAhead : MethodName := ⟨RX12, "isAhead", "(III)Z"⟩
abbrev cX12_place : ByteArray := prog_14_method_47_code
def yX12_place : MethodName := ⟨RX12, "place", "(IIIII)V"⟩
abbrev cX12_sort : ByteArray := prog_14_method_48_code
def yX12_sort : MethodName := ⟨RX12, "sort", "()V"⟩
abbrev cX12_creases : ByteArray := prog_14_method_49_code
def yX12_creases : MethodName := ⟨RX12, "creases", "()I"⟩
abbrev cX12_spotAt : ByteArray := prog_14_method_50_code
def yX12_spotAt : MethodName := ⟨RX12, "spotAt", "(II)I"⟩
abbrev cX12_neighbour : ByteArray := prog_14_method_51_code
def yX12_neighbour : MethodName := ⟨RX12, "neighbour", "(II)I"⟩
abbrev cX12_creaseOf : ByteArray := prog_14_method_52_code
def yX12_creaseOf : MethodName := ⟨RX12, "creaseOf", "(II)I"⟩
abbrev cX12_setCrease : ByteArray := prog_14_method_53_code
def yX12_setCrease : MethodName := ⟨RX12, "setCrease", "(III)V"⟩
abbrev cX12_isPlace : ByteArray := prog_14_method_54_code
def yX12_isPlace : MethodName := ⟨RX12, "isPlace", "(II)Z"⟩
abbrev cX12_spot : ByteArray := prog_14_method_55_code
def yX12_spot : MethodName := ⟨RX12, "spot", "(III)I"⟩
abbrev cX12_toldOf : ByteArray := prog_14_method_56_code
def yX12_toldOf : MethodName := ⟨RX12, "toldOf", "(I)I"⟩
abbrev cX12_crease : ByteArray := prog_14_method_57_code
def yX12_crease : MethodName := ⟨RX12, "crease", "(IIII)I"⟩
abbrev cX12_turned : ByteArray := prog_14_method_58_code
def yX12_turned : MethodName := ⟨RX12, "turned", "(I)V"⟩
abbrev cX12_turn : ByteArray := prog_14_method_59_code
def yX12_turn : MethodName := ⟨RX12, "turn", "(I)I"⟩
abbrev cX12_clear : ByteArray := prog_14_method_60_code
def yX12_clear : MethodName := ⟨RX12, "clear", "()I"⟩
abbrev cX12_told : ByteArray := prog_14_method_61_code
def yX12_told : MethodName := ⟨RX12, "told", "(II)I"⟩
abbrev cX12_toward : ByteArray := prog_14_method_62_code
def yX12_toward : MethodName := ⟨RX12, "toward", "(II)I"⟩
abbrev cX12_foldAcross : ByteArray := prog_14_method_63_code
def yX12_foldAcross : MethodName := ⟨RX12, "foldAcross", "(II)I"⟩
abbrev cX12_foldOf : ByteArray := prog_14_method_64_code
def yX12_foldOf : MethodName := ⟨RX12, "foldOf", "()I"⟩
abbrev cX12_fold : ByteArray := prog_14_method_65_code
def yX12_fold : MethodName := ⟨RX12, "fold", "()I"⟩
abbrev cX12_where : ByteArray := prog_14_method_66_code
def yX12_where : MethodName := ⟨RX12, "where", "(II)I"⟩
abbrev cX12_isOn : ByteArray := prog_14_method_67_code
def yX12_isOn : MethodName := ⟨RX12, "isOn", "(IIII)Z"⟩
abbrev cX12_closed : ByteArray := prog_14_method_68_code
def yX12_closed : MethodName := ⟨RX12, "closed", "()I"⟩
abbrev cX12_writeForm : ByteArray := prog_14_method_69_code
def yX12_writeForm : MethodName := ⟨RX12, "writeForm", "()V"⟩
abbrev cX12_compare : ByteArray := prog_14_method_70_code
def yX12_compare : MethodName := ⟨RX12, "compare", "([I[I)I"⟩
abbrev cX12_findForm : ByteArray := prog_14_method_71_code
def yX12_findForm : MethodName := ⟨RX12, "findForm", "()V"⟩
abbrev cX12_form : ByteArray := prog_14_method_72_code
def yX12_form : MethodName := ⟨RX12, "form", "(I)I"⟩
abbrev cX12_same : ByteArray := prog_14_method_73_code
def yX12_same : MethodName := ⟨RX12, "same", "()I"⟩
abbrev cX12_shelve : ByteArray := prog_14_method_74_code
def yX12_shelve : MethodName := ⟨RX12, "shelve", "(I)I"⟩
abbrev cX12_alike : ByteArray := prog_14_method_75_code
def yX12_alike : MethodName := ⟨RX12, "alike", "(I)I"⟩
abbrev cX12_wrapAcross : ByteArray := prog_14_method_76_code
def yX12_wrapAcross : MethodName := ⟨RX12, "wrapAcross", "(II)I"⟩
abbrev cX12_doesWrap : ByteArray := prog_14_method_77_code
def yX12_doesWrap : MethodName := ⟨RX12, "doesWrap", "(III)Z"⟩
abbrev cX12_findWraps : ByteArray := prog_14_method_78_code
def yX12_findWraps : MethodName := ⟨RX12, "findWraps", "(I)V"⟩
abbrev cX12_wraps : ByteArray := prog_14_method_79_code
def yX12_wraps : MethodName := ⟨RX12, "wraps", "()I"⟩
abbrev cX12_way : ByteArray := prog_14_method_80_code
def yX12_way : MethodName := ⟨RX12, "way", "(II)I"⟩
abbrev cX12_count : ByteArray := prog_14_method_81_code
def yX12_count : MethodName := ⟨RX12, "count", "(I)I"⟩
def RJ6 : String := "java/lang/Integer"
abbrev cJ6_bitCount_0f7a4 : ByteArray := prog_15_method_49_code
def yJ6_bitCount_0f7a4 : MethodName := ⟨RJ6, "bitCount", "(I)I"⟩
def RJ13 : String := "java/lang/Long"
abbrev cJ13_bitCount_95d88 : ByteArray := prog_16_method_50_code
def yJ13_bitCount_95d88 : MethodName := ⟨RJ13, "bitCount", "(J)I"⟩
def RJ9 : String := "java/lang/Math"
abbrev cJ9_abs_0f7a4 : ByteArray := prog_17_method_59_code
def yJ9_abs_0f7a4 : MethodName := ⟨RJ9, "abs", "(I)I"⟩
abbrev cJ9_min_7cf53 : ByteArray := prog_17_method_69_code
def yJ9_min_7cf53 : MethodName := ⟨RJ9, "min", "(II)I"⟩
def RJ10 : String := "java/lang/System"
def RJ7 : String := "java/util/Arrays"
abbrev cJ7_fill_53178 : ByteArray := prog_19_method_103_code
def yJ7_fill_53178 : MethodName := ⟨RJ7, "fill", "([II)V"⟩
def RL : String := "CubeCartonLaw"
abbrev cL_law : ByteArray := code
def yL_law : MethodName := ⟨RL, "law", "([I)Z"⟩
abbrev vwCl : List vw_C := [(RX0, TX0, 3), (RX1, TX1, 1), (RX2, TX2, 1), (RX3, TX3, 4), (RX4, TX4, 5), (RX5, TX5, 6), (RX6, TX6, 5), (RX7, TX7, 3), (RX8, TX8, 4), (RX9, TX9, 8), (RX10, TX10, 5), (RX11, TX11, 11), (RX12, TX12, 51)]
end
section
theorem dX0_init_0 : decode cX0_init 0 = .ok (.aload_n 0, 1) := by decide +kernel
theorem dX0_init_1 : decode cX0_init 1 = .ok (.invokespecial 1, 3) := by decide +kernel
theorem dX0_init_4 : decode cX0_init 4 = .ok (.aload_n 0, 1) := by decide +kernel
theorem dX0_init_5 : decode cX0_init 5 = .ok (.new 7, 3) := by decide +kernel
theorem dX0_init_8 : decode cX0_init 8 = .ok (.dup, 1) := by decide +kernel
theorem dX0_init_9 : decode cX0_init 9 = .ok (.invokespecial 9, 3) := by decide +kernel
theorem dX0_init_12 : decode cX0_init 12 = .ok (.putfield 10, 3) := by decide +kernel
theorem dX0_init_15 : decode cX0_init 15 = .ok (.aload_n 0, 1) := by decide +kernel
theorem dX0_init_16 : decode cX0_init 16 = .ok (.new 16, 3) := by decide +kernel
theorem dX0_init_19 : decode cX0_init 19 = .ok (.dup, 1) := by decide +kernel
theorem dX0_init_20 : decode cX0_init 20 = .ok (.invokespecial 18, 3) := by decide +kernel
theorem dX0_init_23 : decode cX0_init 23 = .ok (.putfield 19, 3) := by decide +kernel
theorem dX0_init_26 : decode cX0_init 26 = .ok (.aload_n 0, 1) := by decide +kernel
theorem dX0_init_27 : decode cX0_init 27 = .ok (.new 23, 3) := by decide +kernel
theorem dX0_init_30 : decode cX0_init 30 = .ok (.dup, 1) := by decide +kernel
theorem dX0_init_31 : decode cX0_init 31 = .ok (.invokespecial 25, 3) := by decide +kernel
theorem dX0_init_34 : decode cX0_init 34 = .ok (.putfield 26, 3) := by decide +kernel
theorem dX0_init_37 : decode cX0_init 37 = .ok (.return_, 1) := by decide +kernel
theorem dX0_become_0 : decode cX0_become 0 = .ok (.aload_n 0, 1) := by decide +kernel
theorem dX0_become_1 : decode cX0_become 1 = .ok (.getfield 10, 3) := by decide +kernel
theorem dX0_become_4 : decode cX0_become 4 = .ok (.aload_n 1, 1) := by decide +kernel
theorem dX0_become_5 : decode cX0_become 5 = .ok (.getfield 10, 3) := by decide +kernel
theorem dX0_become_8 : decode cX0_become 8 = .ok (.invokevirtual 30, 3) := by decide +kernel
theorem dX0_become_11 : decode cX0_become 11 = .ok (.aload_n 0, 1) := by decide +kernel
theorem dX0_become_12 : decode cX0_become 12 = .ok (.getfield 19, 3) := by decide +kernel
theorem dX0_become_15 : decode cX0_become 15 = .ok (.aload_n 1, 1) := by decide +kernel
theorem dX0_become_16 : decode cX0_become 16 = .ok (.getfield 19, 3) := by decide +kernel
theorem dX0_become_19 : decode cX0_become 19 = .ok (.invokevirtual 34, 3) := by decide +kernel
theorem dX0_become_22 : decode cX0_become 22 = .ok (.aload_n 0, 1) := by decide +kernel
theorem dX0_become_23 : decode cX0_become 23 = .ok (.getfield 26, 3) := by decide +kernel
theorem dX0_become_26 : decode cX0_become 26 = .ok (.aload_n 1, 1) := by decide +kernel
theorem dX0_become_27 : decode cX0_become 27 = .ok (.getfield 26, 3) := by decide +kernel
theorem dX0_become_30 : decode cX0_become 30 = .ok (.invokevirtual 37, 3) := by decide +kernel
theorem dX0_become_33 : decode cX0_become 33 = .ok (.return_, 1) := by decide +kernel
theorem dX1_init_0 : decode cX1_init 0 = .ok (.aload_n 0, 1) := by decide +kernel
theorem dX1_init_1 : decode cX1_init 1 = .ok (.invokespecial 1, 3) := by decide +kernel
theorem dX1_init_4 : decode cX1_init 4 = .ok (.aload_n 0, 1) := by decide +kernel
theorem dX1_init_5 : decode cX1_init 5 = .ok (.iconst 4, 1) := by decide +kernel
theorem dX1_init_6 : decode cX1_init 6 = .ok (.newarray .int, 2) := by decide +kernel
theorem dX1_init_8 : decode cX1_init 8 = .ok (.putfield 9, 3) := by decide +kernel
theorem dX1_init_11 : decode cX1_init 11 = .ok (.aload_n 0, 1) := by decide +kernel
theorem dX1_init_12 : decode cX1_init 12 = .ok (.getfield 9, 3) := by decide +kernel
theorem dX1_init_15 : decode cX1_init 15 = .ok (.iconst (-1), 1) := by decide +kernel
theorem dX1_init_16 : decode cX1_init 16 = .ok (.invokestatic 13, 3) := by decide +kernel
theorem dX1_init_19 : decode cX1_init 19 = .ok (.return_, 1) := by decide +kernel
theorem dX1_coordinate_0 : decode cX1_coordinate 0 = .ok (.iload_n 0, 1) := by decide +kernel
theorem dX1_coordinate_1 : decode cX1_coordinate 1 = .ok (.iconst 2, 1) := by decide +kernel
theorem dX1_coordinate_2 : decode cX1_coordinate 2 = .ok (.iload_n 1, 1) := by decide +kernel
theorem dX1_coordinate_3 : decode cX1_coordinate 3 = .ok (.imul, 1) := by decide +kernel
theorem dX1_coordinate_4 : decode cX1_coordinate 4 = .ok (.ishr, 1) := by decide +kernel
theorem dX1_coordinate_5 : decode cX1_coordinate 5 = .ok (.iconst 3, 1) := by decide +kernel
theorem dX1_coordinate_6 : decode cX1_coordinate 6 = .ok (.iand, 1) := by decide +kernel
theorem dX1_coordinate_7 : decode cX1_coordinate 7 = .ok (.ireturn, 1) := by decide +kernel
theorem dX1_against_0 : decode cX1_against 0 = .ok (.iload_n 0, 1) := by decide +kernel
theorem dX1_against_1 : decode cX1_against 1 = .ok (.iconst 1, 1) := by decide +kernel
theorem dX1_against_2 : decode cX1_against 2 = .ok (.ixor, 1) := by decide +kernel
theorem dX1_against_3 : decode cX1_against 3 = .ok (.ireturn, 1) := by decide +kernel
theorem dX1_step_0 : decode cX1_step 0 = .ok (.iload_n 0, 1) := by decide +kernel
theorem dX1_step_1 : decode cX1_step 1 = .ok (.iconst 1, 1) := by decide +kernel
theorem dX1_step_2 : decode cX1_step 2 = .ok (.ishr, 1) := by decide +kernel
theorem dX1_step_3 : decode cX1_step 3 = .ok (.iload_n 1, 1) := by decide +kernel
theorem dX1_step_4 : decode cX1_step 4 = .ok (.if_icmp .eq 5, 3) := by decide +kernel
theorem dX1_step_7 : decode cX1_step 7 = .ok (.iconst 0, 1) := by decide +kernel
theorem dX1_step_8 : decode cX1_step 8 = .ok (.ireturn, 1) := by decide +kernel
theorem dX1_step_9 : decode cX1_step 9 = .ok (.iload_n 0, 1) := by decide +kernel
theorem dX1_step_10 : decode cX1_step 10 = .ok (.iconst 1, 1) := by decide +kernel
theorem dX1_step_11 : decode cX1_step 11 = .ok (.iand, 1) := by decide +kernel
theorem dX1_step_12 : decode cX1_step 12 = .ok (.ifCond .ne 7, 3) := by decide +kernel
theorem dX1_step_15 : decode cX1_step 15 = .ok (.iconst 1, 1) := by decide +kernel
theorem dX1_step_16 : decode cX1_step 16 = .ok (.goto 4, 3) := by decide +kernel
theorem dX1_step_19 : decode cX1_step 19 = .ok (.iconst (-1), 1) := by decide +kernel
theorem dX1_step_20 : decode cX1_step 20 = .ok (.ireturn, 1) := by decide +kernel
theorem dX1_beyond_0 : decode cX1_beyond 0 = .ok (.iload_n 0, 1) := by decide +kernel
theorem dX1_beyond_1 : decode cX1_beyond 1 = .ok (.ifCond .ge 5, 3) := by decide +kernel
theorem dX1_beyond_4 : decode cX1_beyond 4 = .ok (.iconst (-1), 1) := by decide +kernel
theorem dX1_beyond_5 : decode cX1_beyond 5 = .ok (.ireturn, 1) := by decide +kernel
theorem dX1_beyond_6 : decode cX1_beyond 6 = .ok (.iload_n 1, 1) := by decide +kernel
theorem dX1_beyond_7 : decode cX1_beyond 7 = .ok (.iconst 1, 1) := by decide +kernel
theorem dX1_beyond_8 : decode cX1_beyond 8 = .ok (.ishr, 1) := by decide +kernel
theorem dX1_beyond_9 : decode cX1_beyond 9 = .ok (.istore_n 2, 1) := by decide +kernel
theorem dX1_beyond_10 : decode cX1_beyond 10 = .ok (.iload_n 1, 1) := by decide +kernel
theorem dX1_beyond_11 : decode cX1_beyond 11 = .ok (.iload_n 2, 1) := by decide +kernel
theorem dX1_beyond_12 : decode cX1_beyond 12 = .ok (.invokestatic 19, 3) := by decide +kernel
theorem dX1_beyond_15 : decode cX1_beyond 15 = .ok (.istore_n 3, 1) := by decide +kernel
theorem dX1_beyond_16 : decode cX1_beyond 16 = .ok (.iload_n 0, 1) := by decide +kernel
theorem dX1_beyond_17 : decode cX1_beyond 17 = .ok (.iload_n 2, 1) := by decide +kernel
theorem dX1_beyond_18 : decode cX1_beyond 18 = .ok (.invokestatic 23, 3) := by decide +kernel
theorem dX1_beyond_21 : decode cX1_beyond 21 = .ok (.iload_n 3, 1) := by decide +kernel
theorem dX1_beyond_22 : decode cX1_beyond 22 = .ok (.iadd, 1) := by decide +kernel
theorem dX1_beyond_23 : decode cX1_beyond 23 = .ok (.istore 4, 2) := by decide +kernel
theorem dX1_beyond_25 : decode cX1_beyond 25 = .ok (.iload 4, 2) := by decide +kernel
theorem dX1_beyond_27 : decode cX1_beyond 27 = .ok (.ifCond .lt 9, 3) := by decide +kernel
theorem dX1_beyond_30 : decode cX1_beyond 30 = .ok (.iload 4, 2) := by decide +kernel
theorem dX1_beyond_32 : decode cX1_beyond 32 = .ok (.iconst 3, 1) := by decide +kernel
theorem dX1_beyond_33 : decode cX1_beyond 33 = .ok (.if_icmp .le 5, 3) := by decide +kernel
theorem dX1_beyond_36 : decode cX1_beyond 36 = .ok (.iconst (-1), 1) := by decide +kernel
theorem dX1_beyond_37 : decode cX1_beyond 37 = .ok (.ireturn, 1) := by decide +kernel
theorem dX1_beyond_38 : decode cX1_beyond 38 = .ok (.iload_n 0, 1) := by decide +kernel
theorem dX1_beyond_39 : decode cX1_beyond 39 = .ok (.iload_n 3, 1) := by decide +kernel
theorem dX1_beyond_40 : decode cX1_beyond 40 = .ok (.iconst 1, 1) := by decide +kernel
theorem dX1_beyond_41 : decode cX1_beyond 41 = .ok (.iconst 2, 1) := by decide +kernel
theorem dX1_beyond_42 : decode cX1_beyond 42 = .ok (.iload_n 2, 1) := by decide +kernel
theorem dX1_beyond_43 : decode cX1_beyond 43 = .ok (.imul, 1) := by decide +kernel
theorem dX1_beyond_44 : decode cX1_beyond 44 = .ok (.ishl, 1) := by decide +kernel
theorem dX1_beyond_45 : decode cX1_beyond 45 = .ok (.imul, 1) := by decide +kernel
theorem dX1_beyond_46 : decode cX1_beyond 46 = .ok (.iadd, 1) := by decide +kernel
theorem dX1_beyond_47 : decode cX1_beyond 47 = .ok (.ireturn, 1) := by decide +kernel
theorem dX1_has_0 : decode cX1_has 0 = .ok (.iload_n 2, 1) := by decide +kernel
theorem dX1_has_1 : decode cX1_has 1 = .ok (.ifCond .lt 17, 3) := by decide +kernel
theorem dX1_has_4 : decode cX1_has 4 = .ok (.lload_n 0, 1) := by decide +kernel
theorem dX1_has_5 : decode cX1_has 5 = .ok (.iload_n 2, 1) := by decide +kernel
theorem dX1_has_6 : decode cX1_has 6 = .ok (.lshr, 1) := by decide +kernel
theorem dX1_has_7 : decode cX1_has 7 = .ok (.lconst 1, 1) := by decide +kernel
theorem dX1_has_8 : decode cX1_has 8 = .ok (.land, 1) := by decide +kernel
theorem dX1_has_9 : decode cX1_has 9 = .ok (.lconst 1, 1) := by decide +kernel
theorem dX1_has_10 : decode cX1_has 10 = .ok (.lcmp, 1) := by decide +kernel
theorem dX1_has_11 : decode cX1_has 11 = .ok (.ifCond .ne 7, 3) := by decide +kernel
theorem dX1_has_14 : decode cX1_has 14 = .ok (.iconst 1, 1) := by decide +kernel
theorem dX1_has_15 : decode cX1_has 15 = .ok (.goto 4, 3) := by decide +kernel
theorem dX1_has_18 : decode cX1_has 18 = .ok (.iconst 0, 1) := by decide +kernel
theorem dX1_has_19 : decode cX1_has 19 = .ok (.ireturn, 1) := by decide +kernel
theorem dX1_become_0 : decode cX1_become 0 = .ok (.aload_n 1, 1) := by decide +kernel
theorem dX1_become_1 : decode cX1_become 1 = .ok (.getfield 9, 3) := by decide +kernel
theorem dX1_become_4 : decode cX1_become 4 = .ok (.iconst 0, 1) := by decide +kernel
theorem dX1_become_5 : decode cX1_become 5 = .ok (.aload_n 0, 1) := by decide +kernel
theorem dX1_become_6 : decode cX1_become 6 = .ok (.getfield 9, 3) := by decide +kernel
theorem dX1_become_9 : decode cX1_become 9 = .ok (.iconst 0, 1) := by decide +kernel
theorem dX1_become_10 : decode cX1_become 10 = .ok (.iconst 4, 1) := by decide +kernel
theorem dX1_become_11 : decode cX1_become 11 = .ok (.invokestatic 26, 3) := by decide +kernel
theorem dX1_become_14 : decode cX1_become 14 = .ok (.return_, 1) := by decide +kernel
theorem dX1_misses_0 : decode cX1_misses 0 = .ok (.aload_n 0, 1) := by decide +kernel
theorem dX1_misses_1 : decode cX1_misses 1 = .ok (.getfield 9, 3) := by decide +kernel
theorem dX1_misses_4 : decode cX1_misses 4 = .ok (.iload_n 1, 1) := by decide +kernel
theorem dX1_misses_5 : decode cX1_misses 5 = .ok (.iaload, 1) := by decide +kernel
theorem dX1_misses_6 : decode cX1_misses 6 = .ok (.iconst (-1), 1) := by decide +kernel
theorem dX1_misses_7 : decode cX1_misses 7 = .ok (.if_icmp .ne 7, 3) := by decide +kernel
theorem dX1_misses_10 : decode cX1_misses 10 = .ok (.iconst 1, 1) := by decide +kernel
theorem dX1_misses_11 : decode cX1_misses 11 = .ok (.goto 4, 3) := by decide +kernel
theorem dX1_misses_14 : decode cX1_misses 14 = .ok (.iconst 0, 1) := by decide +kernel
theorem dX1_misses_15 : decode cX1_misses 15 = .ok (.ireturn, 1) := by decide +kernel
theorem dX1_bitsOf_0 : decode cX1_bitsOf 0 = .ok (.aload_n 0, 1) := by decide +kernel
theorem dX1_bitsOf_1 : decode cX1_bitsOf 1 = .ok (.iload_n 1, 1) := by decide +kernel
theorem dX1_bitsOf_2 : decode cX1_bitsOf 2 = .ok (.invokevirtual 32, 3) := by decide +kernel
theorem dX1_bitsOf_5 : decode cX1_bitsOf 5 = .ok (.ifCond .eq 7, 3) := by decide +kernel
theorem dX1_bitsOf_8 : decode cX1_bitsOf 8 = .ok (.iconst 0, 1) := by decide +kernel
theorem dX1_bitsOf_9 : decode cX1_bitsOf 9 = .ok (.goto 9, 3) := by decide +kernel
theorem dX1_bitsOf_12 : decode cX1_bitsOf 12 = .ok (.aload_n 0, 1) := by decide +kernel
theorem dX1_bitsOf_13 : decode cX1_bitsOf 13 = .ok (.getfield 9, 3) := by decide +kernel
theorem dX1_bitsOf_16 : decode cX1_bitsOf 16 = .ok (.iload_n 1, 1) := by decide +kernel
theorem dX1_bitsOf_17 : decode cX1_bitsOf 17 = .ok (.iaload, 1) := by decide +kernel
theorem dX1_bitsOf_18 : decode cX1_bitsOf 18 = .ok (.ireturn, 1) := by decide +kernel
theorem dX1_put_0 : decode cX1_put 0 = .ok (.aload_n 0, 1) := by decide +kernel
theorem dX1_put_1 : decode cX1_put 1 = .ok (.getfield 9, 3) := by decide +kernel
theorem dX1_put_4 : decode cX1_put 4 = .ok (.iload_n 1, 1) := by decide +kernel
theorem dX1_put_5 : decode cX1_put 5 = .ok (.iload_n 2, 1) := by decide +kernel
theorem dX1_put_6 : decode cX1_put 6 = .ok (.ldc 36, 2) := by decide +kernel
theorem dX1_put_8 : decode cX1_put 8 = .ok (.iand, 1) := by decide +kernel
theorem dX1_put_9 : decode cX1_put 9 = .ok (.iastore, 1) := by decide +kernel
theorem dX1_put_10 : decode cX1_put 10 = .ok (.return_, 1) := by decide +kernel
theorem dX1_take_0 : decode cX1_take 0 = .ok (.aload_n 0, 1) := by decide +kernel
theorem dX1_take_1 : decode cX1_take 1 = .ok (.getfield 9, 3) := by decide +kernel
theorem dX1_take_4 : decode cX1_take 4 = .ok (.iload_n 1, 1) := by decide +kernel
theorem dX1_take_5 : decode cX1_take 5 = .ok (.iconst (-1), 1) := by decide +kernel
theorem dX1_take_6 : decode cX1_take 6 = .ok (.iastore, 1) := by decide +kernel
theorem dX1_take_7 : decode cX1_take 7 = .ok (.return_, 1) := by decide +kernel
theorem dX1_cubesIn_0 : decode cX1_cubesIn 0 = .ok (.aload_n 0, 1) := by decide +kernel
theorem dX1_cubesIn_1 : decode cX1_cubesIn 1 = .ok (.iload_n 1, 1) := by decide +kernel
theorem dX1_cubesIn_2 : decode cX1_cubesIn 2 = .ok (.invokevirtual 37, 3) := by decide +kernel
theorem dX1_cubesIn_5 : decode cX1_cubesIn 5 = .ok (.invokestatic 41, 3) := by decide +kernel
theorem dX1_cubesIn_8 : decode cX1_cubesIn 8 = .ok (.ireturn, 1) := by decide +kernel
theorem dX1_cubes_0 : decode cX1_cubes 0 = .ok (.aload_n 0, 1) := by decide +kernel
theorem dX1_cubes_1 : decode cX1_cubes 1 = .ok (.invokevirtual 46, 3) := by decide +kernel
theorem dX1_cubes_4 : decode cX1_cubes 4 = .ok (.invokestatic 50, 3) := by decide +kernel
theorem dX1_cubes_7 : decode cX1_cubes 7 = .ok (.ireturn, 1) := by decide +kernel
theorem dX1_layersThere_0 : decode cX1_layersThere 0 = .ok (.iconst 0, 1) := by decide +kernel
theorem dX1_layersThere_1 : decode cX1_layersThere 1 = .ok (.istore_n 1, 1) := by decide +kernel
theorem dX1_layersThere_2 : decode cX1_layersThere 2 = .ok (.iconst 0, 1) := by decide +kernel
theorem dX1_layersThere_3 : decode cX1_layersThere 3 = .ok (.istore_n 2, 1) := by decide +kernel
theorem dX1_layersThere_4 : decode cX1_layersThere 4 = .ok (.iload_n 2, 1) := by decide +kernel
theorem dX1_layersThere_5 : decode cX1_layersThere 5 = .ok (.iconst 4, 1) := by decide +kernel
theorem dX1_layersThere_6 : decode cX1_layersThere 6 = .ok (.if_icmp .ge 25, 3) := by decide +kernel
theorem dX1_layersThere_9 : decode cX1_layersThere 9 = .ok (.iload_n 1, 1) := by decide +kernel
theorem dX1_layersThere_10 : decode cX1_layersThere 10 = .ok (.aload_n 0, 1) := by decide +kernel
theorem dX1_layersThere_11 : decode cX1_layersThere 11 = .ok (.iload_n 2, 1) := by decide +kernel
theorem dX1_layersThere_12 : decode cX1_layersThere 12 = .ok (.invokevirtual 32, 3) := by decide +kernel
theorem dX1_layersThere_15 : decode cX1_layersThere 15 = .ok (.ifCond .eq 7, 3) := by decide +kernel
theorem dX1_layersThere_18 : decode cX1_layersThere 18 = .ok (.iconst 0, 1) := by decide +kernel
theorem dX1_layersThere_19 : decode cX1_layersThere 19 = .ok (.goto 4, 3) := by decide +kernel
theorem dX1_layersThere_22 : decode cX1_layersThere 22 = .ok (.iconst 1, 1) := by decide +kernel
theorem dX1_layersThere_23 : decode cX1_layersThere 23 = .ok (.iadd, 1) := by decide +kernel
theorem dX1_layersThere_24 : decode cX1_layersThere 24 = .ok (.istore_n 1, 1) := by decide +kernel
theorem dX1_layersThere_25 : decode cX1_layersThere 25 = .ok (.iinc 2 1, 3) := by decide +kernel
theorem dX1_layersThere_28 : decode cX1_layersThere 28 = .ok (.goto (-24), 3) := by decide +kernel
theorem dX1_layersThere_31 : decode cX1_layersThere 31 = .ok (.iload_n 1, 1) := by decide +kernel
theorem dX1_layersThere_32 : decode cX1_layersThere 32 = .ok (.ireturn, 1) := by decide +kernel
theorem dX1_cells_0 : decode cX1_cells 0 = .ok (.lconst 0, 1) := by decide +kernel
theorem dX1_cells_1 : decode cX1_cells 1 = .ok (.lstore_n 1, 1) := by decide +kernel
theorem dX1_cells_2 : decode cX1_cells 2 = .ok (.iconst 0, 1) := by decide +kernel
theorem dX1_cells_3 : decode cX1_cells 3 = .ok (.istore_n 3, 1) := by decide +kernel
theorem dX1_cells_4 : decode cX1_cells 4 = .ok (.iload_n 3, 1) := by decide +kernel
theorem dX1_cells_5 : decode cX1_cells 5 = .ok (.iconst 4, 1) := by decide +kernel
theorem dX1_cells_6 : decode cX1_cells 6 = .ok (.if_icmp .ge 23, 3) := by decide +kernel
theorem dX1_cells_9 : decode cX1_cells 9 = .ok (.lload_n 1, 1) := by decide +kernel
theorem dX1_cells_10 : decode cX1_cells 10 = .ok (.aload_n 0, 1) := by decide +kernel
theorem dX1_cells_11 : decode cX1_cells 11 = .ok (.iload_n 3, 1) := by decide +kernel
theorem dX1_cells_12 : decode cX1_cells 12 = .ok (.invokevirtual 37, 3) := by decide +kernel
theorem dX1_cells_15 : decode cX1_cells 15 = .ok (.i2l, 1) := by decide +kernel
theorem dX1_cells_16 : decode cX1_cells 16 = .ok (.bipush 16, 2) := by decide +kernel
theorem dX1_cells_18 : decode cX1_cells 18 = .ok (.iload_n 3, 1) := by decide +kernel
theorem dX1_cells_19 : decode cX1_cells 19 = .ok (.imul, 1) := by decide +kernel
theorem dX1_cells_20 : decode cX1_cells 20 = .ok (.lshl, 1) := by decide +kernel
theorem dX1_cells_21 : decode cX1_cells 21 = .ok (.lor, 1) := by decide +kernel
theorem dX1_cells_22 : decode cX1_cells 22 = .ok (.lstore_n 1, 1) := by decide +kernel
theorem dX1_cells_23 : decode cX1_cells 23 = .ok (.iinc 3 1, 3) := by decide +kernel
theorem dX1_cells_26 : decode cX1_cells 26 = .ok (.goto (-22), 3) := by decide +kernel
theorem dX1_cells_29 : decode cX1_cells 29 = .ok (.lload_n 1, 1) := by decide +kernel
theorem dX1_cells_30 : decode cX1_cells 30 = .ok (.lreturn, 1) := by decide +kernel
theorem dX1_faultOf_0 : decode cX1_faultOf 0 = .ok (.lload_n 0, 1) := by decide +kernel
theorem dX1_faultOf_1 : decode cX1_faultOf 1 = .ok (.lconst 0, 1) := by decide +kernel
theorem dX1_faultOf_2 : decode cX1_faultOf 2 = .ok (.lcmp, 1) := by decide +kernel
theorem dX1_faultOf_3 : decode cX1_faultOf 3 = .ok (.ifCond .ne 5, 3) := by decide +kernel
theorem dX1_faultOf_6 : decode cX1_faultOf 6 = .ok (.iconst 1, 1) := by decide +kernel
theorem dX1_faultOf_7 : decode cX1_faultOf 7 = .ok (.ireturn, 1) := by decide +kernel
theorem dX1_faultOf_8 : decode cX1_faultOf 8 = .ok (.lload_n 0, 1) := by decide +kernel
theorem dX1_faultOf_9 : decode cX1_faultOf 9 = .ok (.invokestatic 55, 3) := by decide +kernel
theorem dX1_faultOf_12 : decode cX1_faultOf 12 = .ok (.ifCond .ne 5, 3) := by decide +kernel
theorem dX1_faultOf_15 : decode cX1_faultOf 15 = .ok (.iconst 2, 1) := by decide +kernel
theorem dX1_faultOf_16 : decode cX1_faultOf 16 = .ok (.ireturn, 1) := by decide +kernel
theorem dX1_faultOf_17 : decode cX1_faultOf 17 = .ok (.lload_n 0, 1) := by decide +kernel
theorem dX1_faultOf_18 : decode cX1_faultOf 18 = .ok (.invokestatic 59, 3) := by decide +kernel
theorem dX1_faultOf_21 : decode cX1_faultOf 21 = .ok (.ifCond .ne 5, 3) := by decide +kernel
theorem dX1_faultOf_24 : decode cX1_faultOf 24 = .ok (.iconst 3, 1) := by decide +kernel
theorem dX1_faultOf_25 : decode cX1_faultOf 25 = .ok (.ireturn, 1) := by decide +kernel
theorem dX1_faultOf_26 : decode cX1_faultOf 26 = .ok (.ldc2_w 62, 3) := by decide +kernel
theorem dX1_faultOf_29 : decode cX1_faultOf 29 = .ok (.lstore_n 2, 1) := by decide +kernel
theorem dX1_faultOf_30 : decode cX1_faultOf 30 = .ok (.lload_n 0, 1) := by decide +kernel
theorem dX1_faultOf_31 : decode cX1_faultOf 31 = .ok (.ldc2_w 64, 3) := by decide +kernel
theorem dX1_faultOf_34 : decode cX1_faultOf 34 = .ok (.lxor, 1) := by decide +kernel
theorem dX1_faultOf_35 : decode cX1_faultOf 35 = .ok (.lload_n 2, 1) := by decide +kernel
theorem dX1_faultOf_36 : decode cX1_faultOf 36 = .ok (.land, 1) := by decide +kernel
theorem dX1_faultOf_37 : decode cX1_faultOf 37 = .ok (.lload_n 0, 1) := by decide +kernel
theorem dX1_faultOf_38 : decode cX1_faultOf 38 = .ok (.ldc2_w 64, 3) := by decide +kernel
theorem dX1_faultOf_41 : decode cX1_faultOf 41 = .ok (.lxor, 1) := by decide +kernel
theorem dX1_faultOf_42 : decode cX1_faultOf 42 = .ok (.invokestatic 66, 3) := by decide +kernel
theorem dX1_faultOf_45 : decode cX1_faultOf 45 = .ok (.lload_n 0, 1) := by decide +kernel
theorem dX1_faultOf_46 : decode cX1_faultOf 46 = .ok (.ldc2_w 64, 3) := by decide +kernel
theorem dX1_faultOf_49 : decode cX1_faultOf 49 = .ok (.lxor, 1) := by decide +kernel
theorem dX1_faultOf_50 : decode cX1_faultOf 50 = .ok (.lcmp, 1) := by decide +kernel
theorem dX1_faultOf_51 : decode cX1_faultOf 51 = .ok (.ifCond .ne 7, 3) := by decide +kernel
theorem dX1_faultOf_54 : decode cX1_faultOf 54 = .ok (.iconst 0, 1) := by decide +kernel
theorem dX1_faultOf_55 : decode cX1_faultOf 55 = .ok (.goto 4, 3) := by decide +kernel
theorem dX1_faultOf_58 : decode cX1_faultOf 58 = .ok (.iconst 4, 1) := by decide +kernel
theorem dX1_faultOf_59 : decode cX1_faultOf 59 = .ok (.ireturn, 1) := by decide +kernel
theorem dX1_meetsBySquares_0 : decode cX1_meetsBySquares 0 = .ok (.iconst 0, 1) := by decide +kernel
theorem dX1_meetsBySquares_1 : decode cX1_meetsBySquares 1 = .ok (.istore_n 2, 1) := by decide +kernel
theorem dX1_meetsBySquares_2 : decode cX1_meetsBySquares 2 = .ok (.iload_n 2, 1) := by decide +kernel
theorem dX1_meetsBySquares_3 : decode cX1_meetsBySquares 3 = .ok (.bipush 27, 2) := by decide +kernel
theorem dX1_meetsBySquares_5 : decode cX1_meetsBySquares 5 = .ok (.if_icmp .ge 76, 3) := by decide +kernel
theorem dX1_meetsBySquares_8 : decode cX1_meetsBySquares 8 = .ok (.bipush 16, 2) := by decide +kernel
theorem dX1_meetsBySquares_10 : decode cX1_meetsBySquares 10 = .ok (.iload_n 2, 1) := by decide +kernel
theorem dX1_meetsBySquares_11 : decode cX1_meetsBySquares 11 = .ok (.bipush 9, 2) := by decide +kernel
theorem dX1_meetsBySquares_13 : decode cX1_meetsBySquares 13 = .ok (.idiv, 1) := by decide +kernel
theorem dX1_meetsBySquares_14 : decode cX1_meetsBySquares 14 = .ok (.imul, 1) := by decide +kernel
theorem dX1_meetsBySquares_15 : decode cX1_meetsBySquares 15 = .ok (.iconst 4, 1) := by decide +kernel
theorem dX1_meetsBySquares_16 : decode cX1_meetsBySquares 16 = .ok (.iload_n 2, 1) := by decide +kernel
theorem dX1_meetsBySquares_17 : decode cX1_meetsBySquares 17 = .ok (.iconst 3, 1) := by decide +kernel
theorem dX1_meetsBySquares_18 : decode cX1_meetsBySquares 18 = .ok (.idiv, 1) := by decide +kernel
theorem dX1_meetsBySquares_19 : decode cX1_meetsBySquares 19 = .ok (.iconst 3, 1) := by decide +kernel
theorem dX1_meetsBySquares_20 : decode cX1_meetsBySquares 20 = .ok (.irem, 1) := by decide +kernel
theorem dX1_meetsBySquares_21 : decode cX1_meetsBySquares 21 = .ok (.imul, 1) := by decide +kernel
theorem dX1_meetsBySquares_22 : decode cX1_meetsBySquares 22 = .ok (.iadd, 1) := by decide +kernel
theorem dX1_meetsBySquares_23 : decode cX1_meetsBySquares 23 = .ok (.iload_n 2, 1) := by decide +kernel
theorem dX1_meetsBySquares_24 : decode cX1_meetsBySquares 24 = .ok (.iconst 3, 1) := by decide +kernel
theorem dX1_meetsBySquares_25 : decode cX1_meetsBySquares 25 = .ok (.irem, 1) := by decide +kernel
theorem dX1_meetsBySquares_26 : decode cX1_meetsBySquares 26 = .ok (.iadd, 1) := by decide +kernel
theorem dX1_meetsBySquares_27 : decode cX1_meetsBySquares 27 = .ok (.istore_n 3, 1) := by decide +kernel
theorem dX1_meetsBySquares_28 : decode cX1_meetsBySquares 28 = .ok (.getstatic 70, 3) := by decide +kernel
theorem dX1_meetsBySquares_31 : decode cX1_meetsBySquares 31 = .ok (.astore 4, 2) := by decide +kernel
theorem dX1_meetsBySquares_33 : decode cX1_meetsBySquares 33 = .ok (.aload 4, 2) := by decide +kernel
theorem dX1_meetsBySquares_35 : decode cX1_meetsBySquares 35 = .ok (.arraylength, 1) := by decide +kernel
theorem dX1_meetsBySquares_36 : decode cX1_meetsBySquares 36 = .ok (.istore 5, 2) := by decide +kernel
theorem dX1_meetsBySquares_38 : decode cX1_meetsBySquares 38 = .ok (.iconst 0, 1) := by decide +kernel
theorem dX1_meetsBySquares_39 : decode cX1_meetsBySquares 39 = .ok (.istore 6, 2) := by decide +kernel
theorem dX1_meetsBySquares_41 : decode cX1_meetsBySquares 41 = .ok (.iload 6, 2) := by decide +kernel
theorem dX1_meetsBySquares_43 : decode cX1_meetsBySquares 43 = .ok (.iload 5, 2) := by decide +kernel
theorem dX1_meetsBySquares_45 : decode cX1_meetsBySquares 45 = .ok (.if_icmp .ge 30, 3) := by decide +kernel
theorem dX1_meetsBySquares_48 : decode cX1_meetsBySquares 48 = .ok (.aload 4, 2) := by decide +kernel
theorem dX1_meetsBySquares_50 : decode cX1_meetsBySquares 50 = .ok (.iload 6, 2) := by decide +kernel
theorem dX1_meetsBySquares_52 : decode cX1_meetsBySquares 52 = .ok (.laload, 1) := by decide +kernel
theorem dX1_meetsBySquares_53 : decode cX1_meetsBySquares 53 = .ok (.lstore 7, 2) := by decide +kernel
theorem dX1_meetsBySquares_55 : decode cX1_meetsBySquares 55 = .ok (.lload_n 0, 1) := by decide +kernel
theorem dX1_meetsBySquares_56 : decode cX1_meetsBySquares 56 = .ok (.lload 7, 2) := by decide +kernel
theorem dX1_meetsBySquares_58 : decode cX1_meetsBySquares 58 = .ok (.iload_n 3, 1) := by decide +kernel
theorem dX1_meetsBySquares_59 : decode cX1_meetsBySquares 59 = .ok (.lshl, 1) := by decide +kernel
theorem dX1_meetsBySquares_60 : decode cX1_meetsBySquares 60 = .ok (.land, 1) := by decide +kernel
theorem dX1_meetsBySquares_61 : decode cX1_meetsBySquares 61 = .ok (.invokestatic 55, 3) := by decide +kernel
theorem dX1_meetsBySquares_64 : decode cX1_meetsBySquares 64 = .ok (.ifCond .ne 5, 3) := by decide +kernel
theorem dX1_meetsBySquares_67 : decode cX1_meetsBySquares 67 = .ok (.iconst 0, 1) := by decide +kernel
theorem dX1_meetsBySquares_68 : decode cX1_meetsBySquares 68 = .ok (.ireturn, 1) := by decide +kernel
theorem dX1_meetsBySquares_69 : decode cX1_meetsBySquares 69 = .ok (.iinc 6 1, 3) := by decide +kernel
theorem dX1_meetsBySquares_72 : decode cX1_meetsBySquares 72 = .ok (.goto (-31), 3) := by decide +kernel
theorem dX1_meetsBySquares_75 : decode cX1_meetsBySquares 75 = .ok (.iinc 2 1, 3) := by decide +kernel
theorem dX1_meetsBySquares_78 : decode cX1_meetsBySquares 78 = .ok (.goto (-76), 3) := by decide +kernel
theorem dX1_meetsBySquares_81 : decode cX1_meetsBySquares 81 = .ok (.iconst 1, 1) := by decide +kernel
theorem dX1_meetsBySquares_82 : decode cX1_meetsBySquares 82 = .ok (.ireturn, 1) := by decide +kernel
theorem dX1_hangs_0 : decode cX1_hangs 0 = .ok (.lload_n 0, 1) := by decide +kernel
theorem dX1_hangs_1 : decode cX1_hangs 1 = .ok (.lload_n 0, 1) := by decide +kernel
theorem dX1_hangs_2 : decode cX1_hangs 2 = .ok (.lneg, 1) := by decide +kernel
theorem dX1_hangs_3 : decode cX1_hangs 3 = .ok (.land, 1) := by decide +kernel
theorem dX1_hangs_4 : decode cX1_hangs 4 = .ok (.lload_n 0, 1) := by decide +kernel
theorem dX1_hangs_5 : decode cX1_hangs 5 = .ok (.invokestatic 66, 3) := by decide +kernel
theorem dX1_hangs_8 : decode cX1_hangs 8 = .ok (.lload_n 0, 1) := by decide +kernel
theorem dX1_hangs_9 : decode cX1_hangs 9 = .ok (.lcmp, 1) := by decide +kernel
theorem dX1_hangs_10 : decode cX1_hangs 10 = .ok (.ifCond .ne 7, 3) := by decide +kernel
theorem dX1_hangs_13 : decode cX1_hangs 13 = .ok (.iconst 1, 1) := by decide +kernel
theorem dX1_hangs_14 : decode cX1_hangs 14 = .ok (.goto 4, 3) := by decide +kernel
theorem dX1_hangs_17 : decode cX1_hangs 17 = .ok (.iconst 0, 1) := by decide +kernel
theorem dX1_hangs_18 : decode cX1_hangs 18 = .ok (.ireturn, 1) := by decide +kernel
theorem dX1_flood_0 : decode cX1_flood 0 = .ok (.lload_n 0, 1) := by decide +kernel
theorem dX1_flood_1 : decode cX1_flood 1 = .ok (.lload_n 2, 1) := by decide +kernel
theorem dX1_flood_2 : decode cX1_flood 2 = .ok (.land, 1) := by decide +kernel
theorem dX1_flood_3 : decode cX1_flood 3 = .ok (.lstore 4, 2) := by decide +kernel
theorem dX1_flood_5 : decode cX1_flood 5 = .ok (.iconst 0, 1) := by decide +kernel
theorem dX1_flood_6 : decode cX1_flood 6 = .ok (.istore 6, 2) := by decide +kernel
theorem dX1_flood_8 : decode cX1_flood 8 = .ok (.iload 6, 2) := by decide +kernel
theorem dX1_flood_10 : decode cX1_flood 10 = .ok (.bipush 64, 2) := by decide +kernel
theorem dX1_flood_12 : decode cX1_flood 12 = .ok (.if_icmp .ge 90, 3) := by decide +kernel
theorem dX1_flood_15 : decode cX1_flood 15 = .ok (.lload 4, 2) := by decide +kernel
theorem dX1_flood_17 : decode cX1_flood 17 = .ok (.ldc2_w 74, 3) := by decide +kernel
theorem dX1_flood_20 : decode cX1_flood 20 = .ok (.land, 1) := by decide +kernel
theorem dX1_flood_21 : decode cX1_flood 21 = .ok (.iconst 1, 1) := by decide +kernel
theorem dX1_flood_22 : decode cX1_flood 22 = .ok (.lshl, 1) := by decide +kernel
theorem dX1_flood_23 : decode cX1_flood 23 = .ok (.lload 4, 2) := by decide +kernel
theorem dX1_flood_25 : decode cX1_flood 25 = .ok (.ldc2_w 76, 3) := by decide +kernel
theorem dX1_flood_28 : decode cX1_flood 28 = .ok (.land, 1) := by decide +kernel
theorem dX1_flood_29 : decode cX1_flood 29 = .ok (.iconst 1, 1) := by decide +kernel
theorem dX1_flood_30 : decode cX1_flood 30 = .ok (.lushr, 1) := by decide +kernel
theorem dX1_flood_31 : decode cX1_flood 31 = .ok (.lor, 1) := by decide +kernel
theorem dX1_flood_32 : decode cX1_flood 32 = .ok (.lstore 7, 2) := by decide +kernel
theorem dX1_flood_34 : decode cX1_flood 34 = .ok (.lload 4, 2) := by decide +kernel
theorem dX1_flood_36 : decode cX1_flood 36 = .ok (.ldc2_w 78, 3) := by decide +kernel
theorem dX1_flood_39 : decode cX1_flood 39 = .ok (.land, 1) := by decide +kernel
theorem dX1_flood_40 : decode cX1_flood 40 = .ok (.iconst 4, 1) := by decide +kernel
theorem dX1_flood_41 : decode cX1_flood 41 = .ok (.lshl, 1) := by decide +kernel
theorem dX1_flood_42 : decode cX1_flood 42 = .ok (.lload 4, 2) := by decide +kernel
theorem dX1_flood_44 : decode cX1_flood 44 = .ok (.ldc2_w 80, 3) := by decide +kernel
theorem dX1_flood_47 : decode cX1_flood 47 = .ok (.land, 1) := by decide +kernel
theorem dX1_flood_48 : decode cX1_flood 48 = .ok (.iconst 4, 1) := by decide +kernel
theorem dX1_flood_49 : decode cX1_flood 49 = .ok (.lushr, 1) := by decide +kernel
theorem dX1_flood_50 : decode cX1_flood 50 = .ok (.lor, 1) := by decide +kernel
theorem dX1_flood_51 : decode cX1_flood 51 = .ok (.lstore 9, 2) := by decide +kernel
theorem dX1_flood_53 : decode cX1_flood 53 = .ok (.lload 4, 2) := by decide +kernel
theorem dX1_flood_55 : decode cX1_flood 55 = .ok (.bipush 16, 2) := by decide +kernel
theorem dX1_flood_57 : decode cX1_flood 57 = .ok (.lshl, 1) := by decide +kernel
theorem dX1_flood_58 : decode cX1_flood 58 = .ok (.lload 4, 2) := by decide +kernel
theorem dX1_flood_60 : decode cX1_flood 60 = .ok (.bipush 16, 2) := by decide +kernel
theorem dX1_flood_62 : decode cX1_flood 62 = .ok (.lushr, 1) := by decide +kernel
theorem dX1_flood_63 : decode cX1_flood 63 = .ok (.lor, 1) := by decide +kernel
theorem dX1_flood_64 : decode cX1_flood 64 = .ok (.lstore 11, 2) := by decide +kernel
theorem dX1_flood_66 : decode cX1_flood 66 = .ok (.lload 4, 2) := by decide +kernel
theorem dX1_flood_68 : decode cX1_flood 68 = .ok (.lload 7, 2) := by decide +kernel
theorem dX1_flood_70 : decode cX1_flood 70 = .ok (.lor, 1) := by decide +kernel
theorem dX1_flood_71 : decode cX1_flood 71 = .ok (.lload 9, 2) := by decide +kernel
theorem dX1_flood_73 : decode cX1_flood 73 = .ok (.lor, 1) := by decide +kernel
theorem dX1_flood_74 : decode cX1_flood 74 = .ok (.lload 11, 2) := by decide +kernel
theorem dX1_flood_76 : decode cX1_flood 76 = .ok (.lor, 1) := by decide +kernel
theorem dX1_flood_77 : decode cX1_flood 77 = .ok (.lload_n 2, 1) := by decide +kernel
theorem dX1_flood_78 : decode cX1_flood 78 = .ok (.land, 1) := by decide +kernel
theorem dX1_flood_79 : decode cX1_flood 79 = .ok (.lstore 13, 2) := by decide +kernel
theorem dX1_flood_81 : decode cX1_flood 81 = .ok (.lload 13, 2) := by decide +kernel
theorem dX1_flood_83 : decode cX1_flood 83 = .ok (.lload 4, 2) := by decide +kernel
theorem dX1_flood_85 : decode cX1_flood 85 = .ok (.lcmp, 1) := by decide +kernel
theorem dX1_flood_86 : decode cX1_flood 86 = .ok (.ifCond .ne 6, 3) := by decide +kernel
theorem dX1_flood_89 : decode cX1_flood 89 = .ok (.goto 13, 3) := by decide +kernel
theorem dX1_flood_92 : decode cX1_flood 92 = .ok (.lload 13, 2) := by decide +kernel
theorem dX1_flood_94 : decode cX1_flood 94 = .ok (.lstore 4, 2) := by decide +kernel
theorem dX1_flood_96 : decode cX1_flood 96 = .ok (.iinc 6 1, 3) := by decide +kernel
theorem dX1_flood_99 : decode cX1_flood 99 = .ok (.goto (-91), 3) := by decide +kernel
theorem dX1_flood_102 : decode cX1_flood 102 = .ok (.lload 4, 2) := by decide +kernel
theorem dX1_flood_104 : decode cX1_flood 104 = .ok (.lreturn, 1) := by decide +kernel
theorem dX2_init_0 : decode cX2_init 0 = .ok (.aload_n 0, 1) := by decide +kernel
theorem dX2_init_1 : decode cX2_init 1 = .ok (.invokespecial 1, 3) := by decide +kernel
theorem dX2_init_4 : decode cX2_init 4 = .ok (.aload_n 0, 1) := by decide +kernel
theorem dX2_init_5 : decode cX2_init 5 = .ok (.sipush 240, 3) := by decide +kernel
theorem dX2_init_8 : decode cX2_init 8 = .ok (.newarray .int, 2) := by decide +kernel
theorem dX2_init_10 : decode cX2_init 10 = .ok (.putfield 9, 3) := by decide +kernel
theorem dX2_init_13 : decode cX2_init 13 = .ok (.return_, 1) := by decide +kernel
theorem dX2_become_0 : decode cX2_become 0 = .ok (.aload_n 1, 1) := by decide +kernel
theorem dX2_become_1 : decode cX2_become 1 = .ok (.getfield 9, 3) := by decide +kernel
theorem dX2_become_4 : decode cX2_become 4 = .ok (.iconst 0, 1) := by decide +kernel
theorem dX2_become_5 : decode cX2_become 5 = .ok (.aload_n 0, 1) := by decide +kernel
theorem dX2_become_6 : decode cX2_become 6 = .ok (.getfield 9, 3) := by decide +kernel
theorem dX2_become_9 : decode cX2_become 9 = .ok (.iconst 0, 1) := by decide +kernel
theorem dX2_become_10 : decode cX2_become 10 = .ok (.sipush 240, 3) := by decide +kernel
theorem dX2_become_13 : decode cX2_become 13 = .ok (.invokestatic 15, 3) := by decide +kernel
theorem dX2_become_16 : decode cX2_become 16 = .ok (.return_, 1) := by decide +kernel
theorem dX2_mend_0 : decode cX2_mend 0 = .ok (.aload_n 0, 1) := by decide +kernel
theorem dX2_mend_1 : decode cX2_mend 1 = .ok (.getfield 9, 3) := by decide +kernel
theorem dX2_mend_4 : decode cX2_mend 4 = .ok (.iconst 0, 1) := by decide +kernel
theorem dX2_mend_5 : decode cX2_mend 5 = .ok (.invokestatic 21, 3) := by decide +kernel
theorem dX2_mend_8 : decode cX2_mend 8 = .ok (.return_, 1) := by decide +kernel
theorem dX2_isCut_0 : decode cX2_isCut 0 = .ok (.aload_n 0, 1) := by decide +kernel
theorem dX2_isCut_1 : decode cX2_isCut 1 = .ok (.getfield 9, 3) := by decide +kernel
theorem dX2_isCut_4 : decode cX2_isCut 4 = .ok (.iload_n 1, 1) := by decide +kernel
theorem dX2_isCut_5 : decode cX2_isCut 5 = .ok (.iaload, 1) := by decide +kernel
theorem dX2_isCut_6 : decode cX2_isCut 6 = .ok (.iload_n 2, 1) := by decide +kernel
theorem dX2_isCut_7 : decode cX2_isCut 7 = .ok (.ishr, 1) := by decide +kernel
theorem dX2_isCut_8 : decode cX2_isCut 8 = .ok (.iconst 1, 1) := by decide +kernel
theorem dX2_isCut_9 : decode cX2_isCut 9 = .ok (.iand, 1) := by decide +kernel
theorem dX2_isCut_10 : decode cX2_isCut 10 = .ok (.iconst 1, 1) := by decide +kernel
theorem dX2_isCut_11 : decode cX2_isCut 11 = .ok (.if_icmp .ne 7, 3) := by decide +kernel
theorem dX2_isCut_14 : decode cX2_isCut 14 = .ok (.iconst 1, 1) := by decide +kernel
theorem dX2_isCut_15 : decode cX2_isCut 15 = .ok (.goto 4, 3) := by decide +kernel
theorem dX2_isCut_18 : decode cX2_isCut 18 = .ok (.iconst 0, 1) := by decide +kernel
theorem dX2_isCut_19 : decode cX2_isCut 19 = .ok (.ireturn, 1) := by decide +kernel
theorem dX2_mark_0 : decode cX2_mark 0 = .ok (.iconst 1, 1) := by decide +kernel
theorem dX2_mark_1 : decode cX2_mark 1 = .ok (.iload_n 2, 1) := by decide +kernel
theorem dX2_mark_2 : decode cX2_mark 2 = .ok (.ishl, 1) := by decide +kernel
theorem dX2_mark_3 : decode cX2_mark 3 = .ok (.istore 4, 2) := by decide +kernel
theorem dX2_mark_5 : decode cX2_mark 5 = .ok (.aload_n 0, 1) := by decide +kernel
theorem dX2_mark_6 : decode cX2_mark 6 = .ok (.getfield 9, 3) := by decide +kernel
theorem dX2_mark_9 : decode cX2_mark 9 = .ok (.iload_n 1, 1) := by decide +kernel
theorem dX2_mark_10 : decode cX2_mark 10 = .ok (.iload_n 3, 1) := by decide +kernel
theorem dX2_mark_11 : decode cX2_mark 11 = .ok (.ifCond .eq 15, 3) := by decide +kernel
theorem dX2_mark_14 : decode cX2_mark 14 = .ok (.aload_n 0, 1) := by decide +kernel
theorem dX2_mark_15 : decode cX2_mark 15 = .ok (.getfield 9, 3) := by decide +kernel
theorem dX2_mark_18 : decode cX2_mark 18 = .ok (.iload_n 1, 1) := by decide +kernel
theorem dX2_mark_19 : decode cX2_mark 19 = .ok (.iaload, 1) := by decide +kernel
theorem dX2_mark_20 : decode cX2_mark 20 = .ok (.iload 4, 2) := by decide +kernel
theorem dX2_mark_22 : decode cX2_mark 22 = .ok (.ior, 1) := by decide +kernel
theorem dX2_mark_23 : decode cX2_mark 23 = .ok (.goto 14, 3) := by decide +kernel
theorem dX2_mark_26 : decode cX2_mark 26 = .ok (.aload_n 0, 1) := by decide +kernel
theorem dX2_mark_27 : decode cX2_mark 27 = .ok (.getfield 9, 3) := by decide +kernel
theorem dX2_mark_30 : decode cX2_mark 30 = .ok (.iload_n 1, 1) := by decide +kernel
theorem dX2_mark_31 : decode cX2_mark 31 = .ok (.iaload, 1) := by decide +kernel
theorem dX2_mark_32 : decode cX2_mark 32 = .ok (.iload 4, 2) := by decide +kernel
theorem dX2_mark_34 : decode cX2_mark 34 = .ok (.iconst (-1), 1) := by decide +kernel
theorem dX2_mark_35 : decode cX2_mark 35 = .ok (.ixor, 1) := by decide +kernel
theorem dX2_mark_36 : decode cX2_mark 36 = .ok (.iand, 1) := by decide +kernel
theorem dX2_mark_37 : decode cX2_mark 37 = .ok (.iastore, 1) := by decide +kernel
theorem dX2_mark_38 : decode cX2_mark 38 = .ok (.return_, 1) := by decide +kernel
theorem dX2_marks_0 : decode cX2_marks 0 = .ok (.iconst 0, 1) := by decide +kernel
theorem dX2_marks_1 : decode cX2_marks 1 = .ok (.istore_n 1, 1) := by decide +kernel
theorem dX2_marks_2 : decode cX2_marks 2 = .ok (.iconst 0, 1) := by decide +kernel
theorem dX2_marks_3 : decode cX2_marks 3 = .ok (.istore_n 2, 1) := by decide +kernel
theorem dX2_marks_4 : decode cX2_marks 4 = .ok (.iload_n 2, 1) := by decide +kernel
theorem dX2_marks_5 : decode cX2_marks 5 = .ok (.sipush 240, 3) := by decide +kernel
theorem dX2_marks_8 : decode cX2_marks 8 = .ok (.if_icmp .ge 21, 3) := by decide +kernel
theorem dX2_marks_11 : decode cX2_marks 11 = .ok (.iload_n 1, 1) := by decide +kernel
theorem dX2_marks_12 : decode cX2_marks 12 = .ok (.aload_n 0, 1) := by decide +kernel
theorem dX2_marks_13 : decode cX2_marks 13 = .ok (.getfield 9, 3) := by decide +kernel
theorem dX2_marks_16 : decode cX2_marks 16 = .ok (.iload_n 2, 1) := by decide +kernel
theorem dX2_marks_17 : decode cX2_marks 17 = .ok (.iaload, 1) := by decide +kernel
theorem dX2_marks_18 : decode cX2_marks 18 = .ok (.invokestatic 27, 3) := by decide +kernel
theorem dX2_marks_21 : decode cX2_marks 21 = .ok (.iadd, 1) := by decide +kernel
theorem dX2_marks_22 : decode cX2_marks 22 = .ok (.istore_n 1, 1) := by decide +kernel
theorem dX2_marks_23 : decode cX2_marks 23 = .ok (.iinc 2 1, 3) := by decide +kernel
theorem dX2_marks_26 : decode cX2_marks 26 = .ok (.goto (-22), 3) := by decide +kernel
theorem dX2_marks_29 : decode cX2_marks 29 = .ok (.iload_n 1, 1) := by decide +kernel
theorem dX2_marks_30 : decode cX2_marks 30 = .ok (.ireturn, 1) := by decide +kernel
theorem dX3_init_0 : decode cX3_init 0 = .ok (.aload_n 0, 1) := by decide +kernel
theorem dX3_init_1 : decode cX3_init 1 = .ok (.invokespecial 1, 3) := by decide +kernel
theorem dX3_init_4 : decode cX3_init 4 = .ok (.aload_n 0, 1) := by decide +kernel
theorem dX3_init_5 : decode cX3_init 5 = .ok (.sipush 360, 3) := by decide +kernel
theorem dX3_init_8 : decode cX3_init 8 = .ok (.newarray .int, 2) := by decide +kernel
theorem dX3_init_10 : decode cX3_init 10 = .ok (.putfield 11, 3) := by decide +kernel
theorem dX3_init_13 : decode cX3_init 13 = .ok (.aload_n 0, 1) := by decide +kernel
theorem dX3_init_14 : decode cX3_init 14 = .ok (.bipush 6, 2) := by decide +kernel
theorem dX3_init_16 : decode cX3_init 16 = .ok (.newarray .int, 2) := by decide +kernel
theorem dX3_init_18 : decode cX3_init 18 = .ok (.putfield 15, 3) := by decide +kernel
theorem dX3_init_21 : decode cX3_init 21 = .ok (.aload_n 0, 1) := by decide +kernel
theorem dX3_init_22 : decode cX3_init 22 = .ok (.sipush 240, 3) := by decide +kernel
theorem dX3_init_25 : decode cX3_init 25 = .ok (.newarray .int, 2) := by decide +kernel
theorem dX3_init_27 : decode cX3_init 27 = .ok (.putfield 18, 3) := by decide +kernel
theorem dX3_init_30 : decode cX3_init 30 = .ok (.aload_n 0, 1) := by decide +kernel
theorem dX3_init_31 : decode cX3_init 31 = .ok (.iconst 0, 1) := by decide +kernel
theorem dX3_init_32 : decode cX3_init 32 = .ok (.putfield 21, 3) := by decide +kernel
theorem dX3_init_35 : decode cX3_init 35 = .ok (.aload_n 0, 1) := by decide +kernel
theorem dX3_init_36 : decode cX3_init 36 = .ok (.getfield 11, 3) := by decide +kernel
theorem dX3_init_39 : decode cX3_init 39 = .ok (.iconst 3, 1) := by decide +kernel
theorem dX3_init_40 : decode cX3_init 40 = .ok (.iconst 4, 1) := by decide +kernel
theorem dX3_init_41 : decode cX3_init 41 = .ok (.iastore, 1) := by decide +kernel
theorem dX3_init_42 : decode cX3_init 42 = .ok (.aload_n 0, 1) := by decide +kernel
theorem dX3_init_43 : decode cX3_init 43 = .ok (.getfield 11, 3) := by decide +kernel
theorem dX3_init_46 : decode cX3_init 46 = .ok (.iconst 4, 1) := by decide +kernel
theorem dX3_init_47 : decode cX3_init 47 = .ok (.iconst 0, 1) := by decide +kernel
theorem dX3_init_48 : decode cX3_init 48 = .ok (.iastore, 1) := by decide +kernel
theorem dX3_init_49 : decode cX3_init 49 = .ok (.aload_n 0, 1) := by decide +kernel
theorem dX3_init_50 : decode cX3_init 50 = .ok (.getfield 11, 3) := by decide +kernel
theorem dX3_init_53 : decode cX3_init 53 = .ok (.iconst 5, 1) := by decide +kernel
theorem dX3_init_54 : decode cX3_init 54 = .ok (.iconst 2, 1) := by decide +kernel
theorem dX3_init_55 : decode cX3_init 55 = .ok (.iastore, 1) := by decide +kernel
theorem dX3_init_56 : decode cX3_init 56 = .ok (.return_, 1) := by decide +kernel
theorem dX3_run_0 : decode cX3_run 0 = .ok (.aload_n 2, 1) := by decide +kernel
theorem dX3_run_1 : decode cX3_run 1 = .ok (.aload_n 1, 1) := by decide +kernel
theorem dX3_run_2 : decode cX3_run 2 = .ok (.invokevirtual 25, 3) := by decide +kernel
theorem dX3_run_5 : decode cX3_run 5 = .ok (.aload_n 0, 1) := by decide +kernel
theorem dX3_run_6 : decode cX3_run 6 = .ok (.aload_n 1, 1) := by decide +kernel
theorem dX3_run_7 : decode cX3_run 7 = .ok (.invokevirtual 31, 3) := by decide +kernel
theorem dX3_run_10 : decode cX3_run 10 = .ok (.putfield 21, 3) := by decide +kernel
theorem dX3_run_13 : decode cX3_run 13 = .ok (.aload_n 2, 1) := by decide +kernel
theorem dX3_run_14 : decode cX3_run 14 = .ok (.invokevirtual 35, 3) := by decide +kernel
theorem dX3_run_17 : decode cX3_run 17 = .ok (.ifCond .ne 5, 3) := by decide +kernel
theorem dX3_run_20 : decode cX3_run 20 = .ok (.iconst 1, 1) := by decide +kernel
theorem dX3_run_21 : decode cX3_run 21 = .ok (.ireturn, 1) := by decide +kernel
theorem dX3_run_22 : decode cX3_run 22 = .ok (.aload_n 0, 1) := by decide +kernel
theorem dX3_run_23 : decode cX3_run 23 = .ok (.aload_n 1, 1) := by decide +kernel
theorem dX3_run_24 : decode cX3_run 24 = .ok (.aload_n 2, 1) := by decide +kernel
theorem dX3_run_25 : decode cX3_run 25 = .ok (.invokevirtual 39, 3) := by decide +kernel
theorem dX3_run_28 : decode cX3_run 28 = .ok (.aload_n 0, 1) := by decide +kernel
theorem dX3_run_29 : decode cX3_run 29 = .ok (.aload_n 1, 1) := by decide +kernel
theorem dX3_run_30 : decode cX3_run 30 = .ok (.aload_n 2, 1) := by decide +kernel
theorem dX3_run_31 : decode cX3_run 31 = .ok (.invokevirtual 43, 3) := by decide +kernel
theorem dX3_run_34 : decode cX3_run 34 = .ok (.ifCond .ne 5, 3) := by decide +kernel
theorem dX3_run_37 : decode cX3_run 37 = .ok (.iconst 2, 1) := by decide +kernel
theorem dX3_run_38 : decode cX3_run 38 = .ok (.ireturn, 1) := by decide +kernel
theorem dX3_run_39 : decode cX3_run 39 = .ok (.aload_n 0, 1) := by decide +kernel
theorem dX3_run_40 : decode cX3_run 40 = .ok (.invokevirtual 47, 3) := by decide +kernel
theorem dX3_run_43 : decode cX3_run 43 = .ok (.ifCond .eq 7, 3) := by decide +kernel
theorem dX3_run_46 : decode cX3_run 46 = .ok (.iconst 3, 1) := by decide +kernel
theorem dX3_run_47 : decode cX3_run 47 = .ok (.goto 4, 3) := by decide +kernel
theorem dX3_run_50 : decode cX3_run 50 = .ok (.iconst 0, 1) := by decide +kernel
theorem dX3_run_51 : decode cX3_run 51 = .ok (.ireturn, 1) := by decide +kernel
theorem dX3_poseOf_0 : decode cX3_poseOf 0 = .ok (.aload_n 0, 1) := by decide +kernel
theorem dX3_poseOf_1 : decode cX3_poseOf 1 = .ok (.getfield 11, 3) := by decide +kernel
theorem dX3_poseOf_4 : decode cX3_poseOf 4 = .ok (.bipush 6, 2) := by decide +kernel
theorem dX3_poseOf_6 : decode cX3_poseOf 6 = .ok (.iload_n 1, 1) := by decide +kernel
theorem dX3_poseOf_7 : decode cX3_poseOf 7 = .ok (.imul, 1) := by decide +kernel
theorem dX3_poseOf_8 : decode cX3_poseOf 8 = .ok (.iload_n 2, 1) := by decide +kernel
theorem dX3_poseOf_9 : decode cX3_poseOf 9 = .ok (.iadd, 1) := by decide +kernel
theorem dX3_poseOf_10 : decode cX3_poseOf 10 = .ok (.iaload, 1) := by decide +kernel
theorem dX3_poseOf_11 : decode cX3_poseOf 11 = .ok (.ireturn, 1) := by decide +kernel
theorem dX3_layAll_0 : decode cX3_layAll 0 = .ok (.iconst 1, 1) := by decide +kernel
theorem dX3_layAll_1 : decode cX3_layAll 1 = .ok (.istore_n 3, 1) := by decide +kernel
theorem dX3_layAll_2 : decode cX3_layAll 2 = .ok (.iload_n 3, 1) := by decide +kernel
theorem dX3_layAll_3 : decode cX3_layAll 3 = .ok (.aload_n 0, 1) := by decide +kernel
theorem dX3_layAll_4 : decode cX3_layAll 4 = .ok (.getfield 21, 3) := by decide +kernel
theorem dX3_layAll_7 : decode cX3_layAll 7 = .ok (.if_icmp .ge 69, 3) := by decide +kernel
theorem dX3_layAll_10 : decode cX3_layAll 10 = .ok (.aload_n 2, 1) := by decide +kernel
theorem dX3_layAll_11 : decode cX3_layAll 11 = .ok (.iload_n 3, 1) := by decide +kernel
theorem dX3_layAll_12 : decode cX3_layAll 12 = .ok (.invokevirtual 50, 3) := by decide +kernel
theorem dX3_layAll_15 : decode cX3_layAll 15 = .ok (.istore 4, 2) := by decide +kernel
theorem dX3_layAll_17 : decode cX3_layAll 17 = .ok (.aload_n 2, 1) := by decide +kernel
theorem dX3_layAll_18 : decode cX3_layAll 18 = .ok (.iload 4, 2) := by decide +kernel
theorem dX3_layAll_20 : decode cX3_layAll 20 = .ok (.invokevirtual 54, 3) := by decide +kernel
theorem dX3_layAll_23 : decode cX3_layAll 23 = .ok (.istore 5, 2) := by decide +kernel
theorem dX3_layAll_25 : decode cX3_layAll 25 = .ok (.aload_n 2, 1) := by decide +kernel
theorem dX3_layAll_26 : decode cX3_layAll 26 = .ok (.iload 4, 2) := by decide +kernel
theorem dX3_layAll_28 : decode cX3_layAll 28 = .ok (.invokevirtual 57, 3) := by decide +kernel
theorem dX3_layAll_31 : decode cX3_layAll 31 = .ok (.istore 6, 2) := by decide +kernel
theorem dX3_layAll_33 : decode cX3_layAll 33 = .ok (.aload_n 0, 1) := by decide +kernel
theorem dX3_layAll_34 : decode cX3_layAll 34 = .ok (.iload 5, 2) := by decide +kernel
theorem dX3_layAll_36 : decode cX3_layAll 36 = .ok (.iload 6, 2) := by decide +kernel
theorem dX3_layAll_38 : decode cX3_layAll 38 = .ok (.aload_n 1, 1) := by decide +kernel
theorem dX3_layAll_39 : decode cX3_layAll 39 = .ok (.iload 5, 2) := by decide +kernel
theorem dX3_layAll_41 : decode cX3_layAll 41 = .ok (.iload 6, 2) := by decide +kernel
theorem dX3_layAll_43 : decode cX3_layAll 43 = .ok (.invokevirtual 60, 3) := by decide +kernel
theorem dX3_layAll_46 : decode cX3_layAll 46 = .ok (.iconst 2, 1) := by decide +kernel
theorem dX3_layAll_47 : decode cX3_layAll 47 = .ok (.isub, 1) := by decide +kernel
theorem dX3_layAll_48 : decode cX3_layAll 48 = .ok (.invokevirtual 64, 3) := by decide +kernel
theorem dX3_layAll_51 : decode cX3_layAll 51 = .ok (.aload_n 0, 1) := by decide +kernel
theorem dX3_layAll_52 : decode cX3_layAll 52 = .ok (.getfield 15, 3) := by decide +kernel
theorem dX3_layAll_55 : decode cX3_layAll 55 = .ok (.iconst 0, 1) := by decide +kernel
theorem dX3_layAll_56 : decode cX3_layAll 56 = .ok (.aload_n 0, 1) := by decide +kernel
theorem dX3_layAll_57 : decode cX3_layAll 57 = .ok (.getfield 11, 3) := by decide +kernel
theorem dX3_layAll_60 : decode cX3_layAll 60 = .ok (.bipush 6, 2) := by decide +kernel
theorem dX3_layAll_62 : decode cX3_layAll 62 = .ok (.iload 4, 2) := by decide +kernel
theorem dX3_layAll_64 : decode cX3_layAll 64 = .ok (.imul, 1) := by decide +kernel
theorem dX3_layAll_65 : decode cX3_layAll 65 = .ok (.bipush 6, 2) := by decide +kernel
theorem dX3_layAll_67 : decode cX3_layAll 67 = .ok (.invokestatic 68, 3) := by decide +kernel
theorem dX3_layAll_70 : decode cX3_layAll 70 = .ok (.iinc 3 1, 3) := by decide +kernel
theorem dX3_layAll_73 : decode cX3_layAll 73 = .ok (.goto (-71), 3) := by decide +kernel
theorem dX3_layAll_76 : decode cX3_layAll 76 = .ok (.return_, 1) := by decide +kernel
theorem dX3_heading_0 : decode cX3_heading 0 = .ok (.aload_n 0, 1) := by decide +kernel
theorem dX3_heading_1 : decode cX3_heading 1 = .ok (.iload_n 1, 1) := by decide +kernel
theorem dX3_heading_2 : decode cX3_heading 2 = .ok (.iload_n 2, 1) := by decide +kernel
theorem dX3_heading_3 : decode cX3_heading 3 = .ok (.iconst 1, 1) := by decide +kernel
theorem dX3_heading_4 : decode cX3_heading 4 = .ok (.iand, 1) := by decide +kernel
theorem dX3_heading_5 : decode cX3_heading 5 = .ok (.ifCond .ne 7, 3) := by decide +kernel
theorem dX3_heading_8 : decode cX3_heading 8 = .ok (.iconst 4, 1) := by decide +kernel
theorem dX3_heading_9 : decode cX3_heading 9 = .ok (.goto 4, 3) := by decide +kernel
theorem dX3_heading_12 : decode cX3_heading 12 = .ok (.iconst 5, 1) := by decide +kernel
theorem dX3_heading_13 : decode cX3_heading 13 = .ok (.invokevirtual 74, 3) := by decide +kernel
theorem dX3_heading_16 : decode cX3_heading 16 = .ok (.istore_n 3, 1) := by decide +kernel
theorem dX3_heading_17 : decode cX3_heading 17 = .ok (.iload_n 2, 1) := by decide +kernel
theorem dX3_heading_18 : decode cX3_heading 18 = .ok (.iconst 2, 1) := by decide +kernel
theorem dX3_heading_19 : decode cX3_heading 19 = .ok (.if_icmp .ge 7, 3) := by decide +kernel
theorem dX3_heading_22 : decode cX3_heading 22 = .ok (.iload_n 3, 1) := by decide +kernel
theorem dX3_heading_23 : decode cX3_heading 23 = .ok (.goto 7, 3) := by decide +kernel
theorem dX3_heading_26 : decode cX3_heading 26 = .ok (.iload_n 3, 1) := by decide +kernel
theorem dX3_heading_27 : decode cX3_heading 27 = .ok (.invokestatic 77, 3) := by decide +kernel
theorem dX3_heading_30 : decode cX3_heading 30 = .ok (.ireturn, 1) := by decide +kernel
theorem dX3_cross_0 : decode cX3_cross 0 = .ok (.aload_n 0, 1) := by decide +kernel
theorem dX3_cross_1 : decode cX3_cross 1 = .ok (.iload_n 1, 1) := by decide +kernel
theorem dX3_cross_2 : decode cX3_cross 2 = .ok (.iconst 3, 1) := by decide +kernel
theorem dX3_cross_3 : decode cX3_cross 3 = .ok (.invokevirtual 74, 3) := by decide +kernel
theorem dX3_cross_6 : decode cX3_cross 6 = .ok (.istore 4, 2) := by decide +kernel
theorem dX3_cross_8 : decode cX3_cross 8 = .ok (.aload_n 0, 1) := by decide +kernel
theorem dX3_cross_9 : decode cX3_cross 9 = .ok (.iload_n 1, 1) := by decide +kernel
theorem dX3_cross_10 : decode cX3_cross 10 = .ok (.iload_n 2, 1) := by decide +kernel
theorem dX3_cross_11 : decode cX3_cross 11 = .ok (.invokevirtual 82, 3) := by decide +kernel
theorem dX3_cross_14 : decode cX3_cross 14 = .ok (.istore 5, 2) := by decide +kernel
theorem dX3_cross_16 : decode cX3_cross 16 = .ok (.iload 5, 2) := by decide +kernel
theorem dX3_cross_18 : decode cX3_cross 18 = .ok (.istore 6, 2) := by decide +kernel
theorem dX3_cross_20 : decode cX3_cross 20 = .ok (.iload 4, 2) := by decide +kernel
theorem dX3_cross_22 : decode cX3_cross 22 = .ok (.istore 7, 2) := by decide +kernel
theorem dX3_cross_24 : decode cX3_cross 24 = .ok (.iload_n 3, 1) := by decide +kernel
theorem dX3_cross_25 : decode cX3_cross 25 = .ok (.iconst 1, 1) := by decide +kernel
theorem dX3_cross_26 : decode cX3_cross 26 = .ok (.if_icmp .ne 17, 3) := by decide +kernel
theorem dX3_cross_29 : decode cX3_cross 29 = .ok (.iload 4, 2) := by decide +kernel
theorem dX3_cross_31 : decode cX3_cross 31 = .ok (.invokestatic 77, 3) := by decide +kernel
theorem dX3_cross_34 : decode cX3_cross 34 = .ok (.istore 6, 2) := by decide +kernel
theorem dX3_cross_36 : decode cX3_cross 36 = .ok (.iload 5, 2) := by decide +kernel
theorem dX3_cross_38 : decode cX3_cross 38 = .ok (.istore 7, 2) := by decide +kernel
theorem dX3_cross_40 : decode cX3_cross 40 = .ok (.goto 19, 3) := by decide +kernel
theorem dX3_cross_43 : decode cX3_cross 43 = .ok (.iload_n 3, 1) := by decide +kernel
theorem dX3_cross_44 : decode cX3_cross 44 = .ok (.iconst (-1), 1) := by decide +kernel
theorem dX3_cross_45 : decode cX3_cross 45 = .ok (.if_icmp .ne 14, 3) := by decide +kernel
theorem dX3_cross_48 : decode cX3_cross 48 = .ok (.iload 4, 2) := by decide +kernel
theorem dX3_cross_50 : decode cX3_cross 50 = .ok (.istore 6, 2) := by decide +kernel
theorem dX3_cross_52 : decode cX3_cross 52 = .ok (.iload 5, 2) := by decide +kernel
theorem dX3_cross_54 : decode cX3_cross 54 = .ok (.invokestatic 77, 3) := by decide +kernel
theorem dX3_cross_57 : decode cX3_cross 57 = .ok (.istore 7, 2) := by decide +kernel
theorem dX3_cross_59 : decode cX3_cross 59 = .ok (.aload_n 0, 1) := by decide +kernel
theorem dX3_cross_60 : decode cX3_cross 60 = .ok (.getfield 11, 3) := by decide +kernel
theorem dX3_cross_63 : decode cX3_cross 63 = .ok (.bipush 6, 2) := by decide +kernel
theorem dX3_cross_65 : decode cX3_cross 65 = .ok (.iload_n 1, 1) := by decide +kernel
theorem dX3_cross_66 : decode cX3_cross 66 = .ok (.imul, 1) := by decide +kernel
theorem dX3_cross_67 : decode cX3_cross 67 = .ok (.aload_n 0, 1) := by decide +kernel
theorem dX3_cross_68 : decode cX3_cross 68 = .ok (.getfield 15, 3) := by decide +kernel
theorem dX3_cross_71 : decode cX3_cross 71 = .ok (.iconst 0, 1) := by decide +kernel
theorem dX3_cross_72 : decode cX3_cross 72 = .ok (.bipush 6, 2) := by decide +kernel
theorem dX3_cross_74 : decode cX3_cross 74 = .ok (.invokestatic 68, 3) := by decide +kernel
theorem dX3_cross_77 : decode cX3_cross 77 = .ok (.iconst 0, 1) := by decide +kernel
theorem dX3_cross_78 : decode cX3_cross 78 = .ok (.istore 8, 2) := by decide +kernel
theorem dX3_cross_80 : decode cX3_cross 80 = .ok (.iload 8, 2) := by decide +kernel
theorem dX3_cross_82 : decode cX3_cross 82 = .ok (.iconst 3, 1) := by decide +kernel
theorem dX3_cross_83 : decode cX3_cross 83 = .ok (.if_icmp .ge 34, 3) := by decide +kernel
theorem dX3_cross_86 : decode cX3_cross 86 = .ok (.aload_n 0, 1) := by decide +kernel
theorem dX3_cross_87 : decode cX3_cross 87 = .ok (.getfield 15, 3) := by decide +kernel
theorem dX3_cross_90 : decode cX3_cross 90 = .ok (.iload 8, 2) := by decide +kernel
theorem dX3_cross_92 : decode cX3_cross 92 = .ok (.dup2, 1) := by decide +kernel
theorem dX3_cross_93 : decode cX3_cross 93 = .ok (.iaload, 1) := by decide +kernel
theorem dX3_cross_94 : decode cX3_cross 94 = .ok (.iload 5, 2) := by decide +kernel
theorem dX3_cross_96 : decode cX3_cross 96 = .ok (.iload 8, 2) := by decide +kernel
theorem dX3_cross_98 : decode cX3_cross 98 = .ok (.invokestatic 85, 3) := by decide +kernel
theorem dX3_cross_101 : decode cX3_cross 101 = .ok (.iload 6, 2) := by decide +kernel
theorem dX3_cross_103 : decode cX3_cross 103 = .ok (.iload 8, 2) := by decide +kernel
theorem dX3_cross_105 : decode cX3_cross 105 = .ok (.invokestatic 85, 3) := by decide +kernel
theorem dX3_cross_108 : decode cX3_cross 108 = .ok (.iadd, 1) := by decide +kernel
theorem dX3_cross_109 : decode cX3_cross 109 = .ok (.iadd, 1) := by decide +kernel
theorem dX3_cross_110 : decode cX3_cross 110 = .ok (.iastore, 1) := by decide +kernel
theorem dX3_cross_111 : decode cX3_cross 111 = .ok (.iinc 8 1, 3) := by decide +kernel
theorem dX3_cross_114 : decode cX3_cross 114 = .ok (.goto (-34), 3) := by decide +kernel
theorem dX3_cross_117 : decode cX3_cross 117 = .ok (.aload_n 0, 1) := by decide +kernel
theorem dX3_cross_118 : decode cX3_cross 118 = .ok (.getfield 15, 3) := by decide +kernel
theorem dX3_cross_121 : decode cX3_cross 121 = .ok (.iconst 3, 1) := by decide +kernel
theorem dX3_cross_122 : decode cX3_cross 122 = .ok (.iload 7, 2) := by decide +kernel
theorem dX3_cross_124 : decode cX3_cross 124 = .ok (.iastore, 1) := by decide +kernel
theorem dX3_cross_125 : decode cX3_cross 125 = .ok (.aload_n 0, 1) := by decide +kernel
theorem dX3_cross_126 : decode cX3_cross 126 = .ok (.getfield 15, 3) := by decide +kernel
theorem dX3_cross_129 : decode cX3_cross 129 = .ok (.iload_n 2, 1) := by decide +kernel
theorem dX3_cross_130 : decode cX3_cross 130 = .ok (.iconst 1, 1) := by decide +kernel
theorem dX3_cross_131 : decode cX3_cross 131 = .ok (.iand, 1) := by decide +kernel
theorem dX3_cross_132 : decode cX3_cross 132 = .ok (.ifCond .ne 7, 3) := by decide +kernel
theorem dX3_cross_135 : decode cX3_cross 135 = .ok (.iconst 4, 1) := by decide +kernel
theorem dX3_cross_136 : decode cX3_cross 136 = .ok (.goto 4, 3) := by decide +kernel
theorem dX3_cross_139 : decode cX3_cross 139 = .ok (.iconst 5, 1) := by decide +kernel
theorem dX3_cross_140 : decode cX3_cross 140 = .ok (.iload_n 2, 1) := by decide +kernel
theorem dX3_cross_141 : decode cX3_cross 141 = .ok (.iconst 2, 1) := by decide +kernel
theorem dX3_cross_142 : decode cX3_cross 142 = .ok (.if_icmp .ge 8, 3) := by decide +kernel
theorem dX3_cross_145 : decode cX3_cross 145 = .ok (.iload 6, 2) := by decide +kernel
theorem dX3_cross_147 : decode cX3_cross 147 = .ok (.goto 8, 3) := by decide +kernel
theorem dX3_cross_150 : decode cX3_cross 150 = .ok (.iload 6, 2) := by decide +kernel
theorem dX3_cross_152 : decode cX3_cross 152 = .ok (.invokestatic 77, 3) := by decide +kernel
theorem dX3_cross_155 : decode cX3_cross 155 = .ok (.iastore, 1) := by decide +kernel
theorem dX3_cross_156 : decode cX3_cross 156 = .ok (.return_, 1) := by decide +kernel
theorem dX3_agrees_0 : decode cX3_agrees 0 = .ok (.iconst 0, 1) := by decide +kernel
theorem dX3_agrees_1 : decode cX3_agrees 1 = .ok (.istore_n 3, 1) := by decide +kernel
theorem dX3_agrees_2 : decode cX3_agrees 2 = .ok (.iload_n 3, 1) := by decide +kernel
theorem dX3_agrees_3 : decode cX3_agrees 3 = .ok (.aload_n 0, 1) := by decide +kernel
theorem dX3_agrees_4 : decode cX3_agrees 4 = .ok (.getfield 21, 3) := by decide +kernel
theorem dX3_agrees_7 : decode cX3_agrees 7 = .ok (.if_icmp .ge 65, 3) := by decide +kernel
theorem dX3_agrees_10 : decode cX3_agrees 10 = .ok (.iconst 0, 1) := by decide +kernel
theorem dX3_agrees_11 : decode cX3_agrees 11 = .ok (.istore 4, 2) := by decide +kernel
theorem dX3_agrees_13 : decode cX3_agrees 13 = .ok (.iload 4, 2) := by decide +kernel
theorem dX3_agrees_15 : decode cX3_agrees 15 = .ok (.iconst 2, 1) := by decide +kernel
theorem dX3_agrees_16 : decode cX3_agrees 16 = .ok (.if_icmp .ge 50, 3) := by decide +kernel
theorem dX3_agrees_19 : decode cX3_agrees 19 = .ok (.aload_n 2, 1) := by decide +kernel
theorem dX3_agrees_20 : decode cX3_agrees 20 = .ok (.iload_n 3, 1) := by decide +kernel
theorem dX3_agrees_21 : decode cX3_agrees 21 = .ok (.iload 4, 2) := by decide +kernel
theorem dX3_agrees_23 : decode cX3_agrees 23 = .ok (.invokevirtual 88, 3) := by decide +kernel
theorem dX3_agrees_26 : decode cX3_agrees 26 = .ok (.istore 5, 2) := by decide +kernel
theorem dX3_agrees_28 : decode cX3_agrees 28 = .ok (.iload 5, 2) := by decide +kernel
theorem dX3_agrees_30 : decode cX3_agrees 30 = .ok (.ifCond .lt 30, 3) := by decide +kernel
theorem dX3_agrees_33 : decode cX3_agrees 33 = .ok (.aload_n 0, 1) := by decide +kernel
theorem dX3_agrees_34 : decode cX3_agrees 34 = .ok (.iload_n 3, 1) := by decide +kernel
theorem dX3_agrees_35 : decode cX3_agrees 35 = .ok (.iload 4, 2) := by decide +kernel
theorem dX3_agrees_37 : decode cX3_agrees 37 = .ok (.aload_n 1, 1) := by decide +kernel
theorem dX3_agrees_38 : decode cX3_agrees 38 = .ok (.iload_n 3, 1) := by decide +kernel
theorem dX3_agrees_39 : decode cX3_agrees 39 = .ok (.iload 4, 2) := by decide +kernel
theorem dX3_agrees_41 : decode cX3_agrees 41 = .ok (.invokevirtual 60, 3) := by decide +kernel
theorem dX3_agrees_44 : decode cX3_agrees 44 = .ok (.iconst 2, 1) := by decide +kernel
theorem dX3_agrees_45 : decode cX3_agrees 45 = .ok (.isub, 1) := by decide +kernel
theorem dX3_agrees_46 : decode cX3_agrees 46 = .ok (.invokevirtual 64, 3) := by decide +kernel
theorem dX3_agrees_49 : decode cX3_agrees 49 = .ok (.aload_n 0, 1) := by decide +kernel
theorem dX3_agrees_50 : decode cX3_agrees 50 = .ok (.iload 5, 2) := by decide +kernel
theorem dX3_agrees_52 : decode cX3_agrees 52 = .ok (.invokevirtual 91, 3) := by decide +kernel
theorem dX3_agrees_55 : decode cX3_agrees 55 = .ok (.ifCond .ne 5, 3) := by decide +kernel
theorem dX3_agrees_58 : decode cX3_agrees 58 = .ok (.iconst 0, 1) := by decide +kernel
theorem dX3_agrees_59 : decode cX3_agrees 59 = .ok (.ireturn, 1) := by decide +kernel
theorem dX3_agrees_60 : decode cX3_agrees 60 = .ok (.iinc 4 1, 3) := by decide +kernel
theorem dX3_agrees_63 : decode cX3_agrees 63 = .ok (.goto (-50), 3) := by decide +kernel
theorem dX3_agrees_66 : decode cX3_agrees 66 = .ok (.iinc 3 1, 3) := by decide +kernel
theorem dX3_agrees_69 : decode cX3_agrees 69 = .ok (.goto (-67), 3) := by decide +kernel
theorem dX3_agrees_72 : decode cX3_agrees 72 = .ok (.iconst 1, 1) := by decide +kernel
theorem dX3_agrees_73 : decode cX3_agrees 73 = .ok (.ireturn, 1) := by decide +kernel
theorem dX3_liesBeside_0 : decode cX3_liesBeside 0 = .ok (.iconst 0, 1) := by decide +kernel
theorem dX3_liesBeside_1 : decode cX3_liesBeside 1 = .ok (.istore_n 2, 1) := by decide +kernel
theorem dX3_liesBeside_2 : decode cX3_liesBeside 2 = .ok (.iload_n 2, 1) := by decide +kernel
theorem dX3_liesBeside_3 : decode cX3_liesBeside 3 = .ok (.bipush 6, 2) := by decide +kernel
theorem dX3_liesBeside_5 : decode cX3_liesBeside 5 = .ok (.if_icmp .ge 26, 3) := by decide +kernel
theorem dX3_liesBeside_8 : decode cX3_liesBeside 8 = .ok (.aload_n 0, 1) := by decide +kernel
theorem dX3_liesBeside_9 : decode cX3_liesBeside 9 = .ok (.iload_n 1, 1) := by decide +kernel
theorem dX3_liesBeside_10 : decode cX3_liesBeside 10 = .ok (.iload_n 2, 1) := by decide +kernel
theorem dX3_liesBeside_11 : decode cX3_liesBeside 11 = .ok (.invokevirtual 74, 3) := by decide +kernel
theorem dX3_liesBeside_14 : decode cX3_liesBeside 14 = .ok (.aload_n 0, 1) := by decide +kernel
theorem dX3_liesBeside_15 : decode cX3_liesBeside 15 = .ok (.getfield 15, 3) := by decide +kernel
theorem dX3_liesBeside_18 : decode cX3_liesBeside 18 = .ok (.iload_n 2, 1) := by decide +kernel
theorem dX3_liesBeside_19 : decode cX3_liesBeside 19 = .ok (.iaload, 1) := by decide +kernel
theorem dX3_liesBeside_20 : decode cX3_liesBeside 20 = .ok (.if_icmp .eq 5, 3) := by decide +kernel
theorem dX3_liesBeside_23 : decode cX3_liesBeside 23 = .ok (.iconst 0, 1) := by decide +kernel
theorem dX3_liesBeside_24 : decode cX3_liesBeside 24 = .ok (.ireturn, 1) := by decide +kernel
theorem dX3_liesBeside_25 : decode cX3_liesBeside 25 = .ok (.iinc 2 1, 3) := by decide +kernel
theorem dX3_liesBeside_28 : decode cX3_liesBeside 28 = .ok (.goto (-26), 3) := by decide +kernel
theorem dX3_liesBeside_31 : decode cX3_liesBeside 31 = .ok (.iconst 1, 1) := by decide +kernel
theorem dX3_liesBeside_32 : decode cX3_liesBeside 32 = .ok (.ireturn, 1) := by decide +kernel
theorem dX3_overlaps_0 : decode cX3_overlaps 0 = .ok (.iconst 0, 1) := by decide +kernel
theorem dX3_overlaps_1 : decode cX3_overlaps 1 = .ok (.istore_n 1, 1) := by decide +kernel
theorem dX3_overlaps_2 : decode cX3_overlaps 2 = .ok (.iload_n 1, 1) := by decide +kernel
theorem dX3_overlaps_3 : decode cX3_overlaps 3 = .ok (.aload_n 0, 1) := by decide +kernel
theorem dX3_overlaps_4 : decode cX3_overlaps 4 = .ok (.getfield 21, 3) := by decide +kernel
theorem dX3_overlaps_7 : decode cX3_overlaps 7 = .ok (.if_icmp .ge 69, 3) := by decide +kernel
theorem dX3_overlaps_10 : decode cX3_overlaps 10 = .ok (.iconst 0, 1) := by decide +kernel
theorem dX3_overlaps_11 : decode cX3_overlaps 11 = .ok (.istore_n 2, 1) := by decide +kernel
theorem dX3_overlaps_12 : decode cX3_overlaps 12 = .ok (.iload_n 2, 1) := by decide +kernel
theorem dX3_overlaps_13 : decode cX3_overlaps 13 = .ok (.iload_n 1, 1) := by decide +kernel
theorem dX3_overlaps_14 : decode cX3_overlaps 14 = .ok (.if_icmp .ge 56, 3) := by decide +kernel
theorem dX3_overlaps_17 : decode cX3_overlaps 17 = .ok (.aload_n 0, 1) := by decide +kernel
theorem dX3_overlaps_18 : decode cX3_overlaps 18 = .ok (.iload_n 1, 1) := by decide +kernel
theorem dX3_overlaps_19 : decode cX3_overlaps 19 = .ok (.iconst 0, 1) := by decide +kernel
theorem dX3_overlaps_20 : decode cX3_overlaps 20 = .ok (.invokevirtual 74, 3) := by decide +kernel
theorem dX3_overlaps_23 : decode cX3_overlaps 23 = .ok (.aload_n 0, 1) := by decide +kernel
theorem dX3_overlaps_24 : decode cX3_overlaps 24 = .ok (.iload_n 2, 1) := by decide +kernel
theorem dX3_overlaps_25 : decode cX3_overlaps 25 = .ok (.iconst 0, 1) := by decide +kernel
theorem dX3_overlaps_26 : decode cX3_overlaps 26 = .ok (.invokevirtual 74, 3) := by decide +kernel
theorem dX3_overlaps_29 : decode cX3_overlaps 29 = .ok (.if_icmp .ne 35, 3) := by decide +kernel
theorem dX3_overlaps_32 : decode cX3_overlaps 32 = .ok (.aload_n 0, 1) := by decide +kernel
theorem dX3_overlaps_33 : decode cX3_overlaps 33 = .ok (.iload_n 1, 1) := by decide +kernel
theorem dX3_overlaps_34 : decode cX3_overlaps 34 = .ok (.iconst 1, 1) := by decide +kernel
theorem dX3_overlaps_35 : decode cX3_overlaps 35 = .ok (.invokevirtual 74, 3) := by decide +kernel
theorem dX3_overlaps_38 : decode cX3_overlaps 38 = .ok (.aload_n 0, 1) := by decide +kernel
theorem dX3_overlaps_39 : decode cX3_overlaps 39 = .ok (.iload_n 2, 1) := by decide +kernel
theorem dX3_overlaps_40 : decode cX3_overlaps 40 = .ok (.iconst 1, 1) := by decide +kernel
theorem dX3_overlaps_41 : decode cX3_overlaps 41 = .ok (.invokevirtual 74, 3) := by decide +kernel
theorem dX3_overlaps_44 : decode cX3_overlaps 44 = .ok (.if_icmp .ne 20, 3) := by decide +kernel
theorem dX3_overlaps_47 : decode cX3_overlaps 47 = .ok (.aload_n 0, 1) := by decide +kernel
theorem dX3_overlaps_48 : decode cX3_overlaps 48 = .ok (.iload_n 1, 1) := by decide +kernel
theorem dX3_overlaps_49 : decode cX3_overlaps 49 = .ok (.iconst 2, 1) := by decide +kernel
theorem dX3_overlaps_50 : decode cX3_overlaps 50 = .ok (.invokevirtual 74, 3) := by decide +kernel
theorem dX3_overlaps_53 : decode cX3_overlaps 53 = .ok (.aload_n 0, 1) := by decide +kernel
theorem dX3_overlaps_54 : decode cX3_overlaps 54 = .ok (.iload_n 2, 1) := by decide +kernel
theorem dX3_overlaps_55 : decode cX3_overlaps 55 = .ok (.iconst 2, 1) := by decide +kernel
theorem dX3_overlaps_56 : decode cX3_overlaps 56 = .ok (.invokevirtual 74, 3) := by decide +kernel
theorem dX3_overlaps_59 : decode cX3_overlaps 59 = .ok (.if_icmp .ne 5, 3) := by decide +kernel
theorem dX3_overlaps_62 : decode cX3_overlaps 62 = .ok (.iconst 1, 1) := by decide +kernel
theorem dX3_overlaps_63 : decode cX3_overlaps 63 = .ok (.ireturn, 1) := by decide +kernel
theorem dX3_overlaps_64 : decode cX3_overlaps 64 = .ok (.iinc 2 1, 3) := by decide +kernel
theorem dX3_overlaps_67 : decode cX3_overlaps 67 = .ok (.goto (-55), 3) := by decide +kernel
theorem dX3_overlaps_70 : decode cX3_overlaps 70 = .ok (.iinc 1 1, 3) := by decide +kernel
theorem dX3_overlaps_73 : decode cX3_overlaps 73 = .ok (.goto (-71), 3) := by decide +kernel
theorem dX3_overlaps_76 : decode cX3_overlaps 76 = .ok (.iconst 0, 1) := by decide +kernel
theorem dX3_overlaps_77 : decode cX3_overlaps 77 = .ok (.ireturn, 1) := by decide +kernel
theorem dX3_leavesNoGap_0 : decode cX3_leavesNoGap 0 = .ok (.iconst 0, 1) := by decide +kernel
theorem dX3_leavesNoGap_1 : decode cX3_leavesNoGap 1 = .ok (.istore_n 1, 1) := by decide +kernel
theorem dX3_leavesNoGap_2 : decode cX3_leavesNoGap 2 = .ok (.iload_n 1, 1) := by decide +kernel
theorem dX3_leavesNoGap_3 : decode cX3_leavesNoGap 3 = .ok (.aload_n 0, 1) := by decide +kernel
theorem dX3_leavesNoGap_4 : decode cX3_leavesNoGap 4 = .ok (.getfield 21, 3) := by decide +kernel
theorem dX3_leavesNoGap_7 : decode cX3_leavesNoGap 7 = .ok (.if_icmp .ge 38, 3) := by decide +kernel
theorem dX3_leavesNoGap_10 : decode cX3_leavesNoGap 10 = .ok (.iconst 0, 1) := by decide +kernel
theorem dX3_leavesNoGap_11 : decode cX3_leavesNoGap 11 = .ok (.istore_n 2, 1) := by decide +kernel
theorem dX3_leavesNoGap_12 : decode cX3_leavesNoGap 12 = .ok (.iload_n 2, 1) := by decide +kernel
theorem dX3_leavesNoGap_13 : decode cX3_leavesNoGap 13 = .ok (.iconst 4, 1) := by decide +kernel
theorem dX3_leavesNoGap_14 : decode cX3_leavesNoGap 14 = .ok (.if_icmp .ge 25, 3) := by decide +kernel
theorem dX3_leavesNoGap_17 : decode cX3_leavesNoGap 17 = .ok (.aload_n 0, 1) := by decide +kernel
theorem dX3_leavesNoGap_18 : decode cX3_leavesNoGap 18 = .ok (.getfield 18, 3) := by decide +kernel
theorem dX3_leavesNoGap_21 : decode cX3_leavesNoGap 21 = .ok (.iconst 4, 1) := by decide +kernel
theorem dX3_leavesNoGap_22 : decode cX3_leavesNoGap 22 = .ok (.iload_n 1, 1) := by decide +kernel
theorem dX3_leavesNoGap_23 : decode cX3_leavesNoGap 23 = .ok (.imul, 1) := by decide +kernel
theorem dX3_leavesNoGap_24 : decode cX3_leavesNoGap 24 = .ok (.iload_n 2, 1) := by decide +kernel
theorem dX3_leavesNoGap_25 : decode cX3_leavesNoGap 25 = .ok (.iadd, 1) := by decide +kernel
theorem dX3_leavesNoGap_26 : decode cX3_leavesNoGap 26 = .ok (.aload_n 0, 1) := by decide +kernel
theorem dX3_leavesNoGap_27 : decode cX3_leavesNoGap 27 = .ok (.iload_n 1, 1) := by decide +kernel
theorem dX3_leavesNoGap_28 : decode cX3_leavesNoGap 28 = .ok (.iload_n 2, 1) := by decide +kernel
theorem dX3_leavesNoGap_29 : decode cX3_leavesNoGap 29 = .ok (.invokevirtual 95, 3) := by decide +kernel
theorem dX3_leavesNoGap_32 : decode cX3_leavesNoGap 32 = .ok (.iastore, 1) := by decide +kernel
theorem dX3_leavesNoGap_33 : decode cX3_leavesNoGap 33 = .ok (.iinc 2 1, 3) := by decide +kernel
theorem dX3_leavesNoGap_36 : decode cX3_leavesNoGap 36 = .ok (.goto (-24), 3) := by decide +kernel
theorem dX3_leavesNoGap_39 : decode cX3_leavesNoGap 39 = .ok (.iinc 1 1, 3) := by decide +kernel
theorem dX3_leavesNoGap_42 : decode cX3_leavesNoGap 42 = .ok (.goto (-40), 3) := by decide +kernel
theorem dX3_leavesNoGap_45 : decode cX3_leavesNoGap 45 = .ok (.iconst 0, 1) := by decide +kernel
theorem dX3_leavesNoGap_46 : decode cX3_leavesNoGap 46 = .ok (.istore_n 1, 1) := by decide +kernel
theorem dX3_leavesNoGap_47 : decode cX3_leavesNoGap 47 = .ok (.iload_n 1, 1) := by decide +kernel
theorem dX3_leavesNoGap_48 : decode cX3_leavesNoGap 48 = .ok (.iconst 4, 1) := by decide +kernel
theorem dX3_leavesNoGap_49 : decode cX3_leavesNoGap 49 = .ok (.aload_n 0, 1) := by decide +kernel
theorem dX3_leavesNoGap_50 : decode cX3_leavesNoGap 50 = .ok (.getfield 21, 3) := by decide +kernel
theorem dX3_leavesNoGap_53 : decode cX3_leavesNoGap 53 = .ok (.imul, 1) := by decide +kernel
theorem dX3_leavesNoGap_54 : decode cX3_leavesNoGap 54 = .ok (.if_icmp .ge 25, 3) := by decide +kernel
theorem dX3_leavesNoGap_57 : decode cX3_leavesNoGap 57 = .ok (.aload_n 0, 1) := by decide +kernel
theorem dX3_leavesNoGap_58 : decode cX3_leavesNoGap 58 = .ok (.aload_n 0, 1) := by decide +kernel
theorem dX3_leavesNoGap_59 : decode cX3_leavesNoGap 59 = .ok (.getfield 18, 3) := by decide +kernel
theorem dX3_leavesNoGap_62 : decode cX3_leavesNoGap 62 = .ok (.iload_n 1, 1) := by decide +kernel
theorem dX3_leavesNoGap_63 : decode cX3_leavesNoGap 63 = .ok (.iaload, 1) := by decide +kernel
theorem dX3_leavesNoGap_64 : decode cX3_leavesNoGap 64 = .ok (.invokevirtual 98, 3) := by decide +kernel
theorem dX3_leavesNoGap_67 : decode cX3_leavesNoGap 67 = .ok (.iconst 2, 1) := by decide +kernel
theorem dX3_leavesNoGap_68 : decode cX3_leavesNoGap 68 = .ok (.if_icmp .eq 5, 3) := by decide +kernel
theorem dX3_leavesNoGap_71 : decode cX3_leavesNoGap 71 = .ok (.iconst 0, 1) := by decide +kernel
theorem dX3_leavesNoGap_72 : decode cX3_leavesNoGap 72 = .ok (.ireturn, 1) := by decide +kernel
theorem dX3_leavesNoGap_73 : decode cX3_leavesNoGap 73 = .ok (.iinc 1 1, 3) := by decide +kernel
theorem dX3_leavesNoGap_76 : decode cX3_leavesNoGap 76 = .ok (.goto (-29), 3) := by decide +kernel
theorem dX3_leavesNoGap_79 : decode cX3_leavesNoGap 79 = .ok (.iconst 1, 1) := by decide +kernel
theorem dX3_leavesNoGap_80 : decode cX3_leavesNoGap 80 = .ok (.ireturn, 1) := by decide +kernel
theorem dX3_rim_0 : decode cX3_rim 0 = .ok (.aload_n 0, 1) := by decide +kernel
theorem dX3_rim_1 : decode cX3_rim 1 = .ok (.iload_n 1, 1) := by decide +kernel
theorem dX3_rim_2 : decode cX3_rim 2 = .ok (.iload_n 2, 1) := by decide +kernel
theorem dX3_rim_3 : decode cX3_rim 3 = .ok (.invokevirtual 82, 3) := by decide +kernel
theorem dX3_rim_6 : decode cX3_rim 6 = .ok (.istore_n 3, 1) := by decide +kernel
theorem dX3_rim_7 : decode cX3_rim 7 = .ok (.iconst 0, 1) := by decide +kernel
theorem dX3_rim_8 : decode cX3_rim 8 = .ok (.istore 4, 2) := by decide +kernel
theorem dX3_rim_10 : decode cX3_rim 10 = .ok (.iconst 0, 1) := by decide +kernel
theorem dX3_rim_11 : decode cX3_rim 11 = .ok (.istore 5, 2) := by decide +kernel
theorem dX3_rim_13 : decode cX3_rim 13 = .ok (.iload 5, 2) := by decide +kernel
theorem dX3_rim_15 : decode cX3_rim 15 = .ok (.iconst 3, 1) := by decide +kernel
theorem dX3_rim_16 : decode cX3_rim 16 = .ok (.if_icmp .ge 36, 3) := by decide +kernel
theorem dX3_rim_19 : decode cX3_rim 19 = .ok (.sipush 256, 3) := by decide +kernel
theorem dX3_rim_22 : decode cX3_rim 22 = .ok (.iload 4, 2) := by decide +kernel
theorem dX3_rim_24 : decode cX3_rim 24 = .ok (.imul, 1) := by decide +kernel
theorem dX3_rim_25 : decode cX3_rim 25 = .ok (.sipush 128, 3) := by decide +kernel
theorem dX3_rim_28 : decode cX3_rim 28 = .ok (.iadd, 1) := by decide +kernel
theorem dX3_rim_29 : decode cX3_rim 29 = .ok (.aload_n 0, 1) := by decide +kernel
theorem dX3_rim_30 : decode cX3_rim 30 = .ok (.iload_n 1, 1) := by decide +kernel
theorem dX3_rim_31 : decode cX3_rim 31 = .ok (.iload 5, 2) := by decide +kernel
theorem dX3_rim_33 : decode cX3_rim 33 = .ok (.invokevirtual 74, 3) := by decide +kernel
theorem dX3_rim_36 : decode cX3_rim 36 = .ok (.iadd, 1) := by decide +kernel
theorem dX3_rim_37 : decode cX3_rim 37 = .ok (.iload_n 3, 1) := by decide +kernel
theorem dX3_rim_38 : decode cX3_rim 38 = .ok (.iload 5, 2) := by decide +kernel
theorem dX3_rim_40 : decode cX3_rim 40 = .ok (.invokestatic 85, 3) := by decide +kernel
theorem dX3_rim_43 : decode cX3_rim 43 = .ok (.iadd, 1) := by decide +kernel
theorem dX3_rim_44 : decode cX3_rim 44 = .ok (.istore 4, 2) := by decide +kernel
theorem dX3_rim_46 : decode cX3_rim 46 = .ok (.iinc 5 1, 3) := by decide +kernel
theorem dX3_rim_49 : decode cX3_rim 49 = .ok (.goto (-36), 3) := by decide +kernel
theorem dX3_rim_52 : decode cX3_rim 52 = .ok (.iconst 3, 1) := by decide +kernel
theorem dX3_rim_53 : decode cX3_rim 53 = .ok (.iload 4, 2) := by decide +kernel
theorem dX3_rim_55 : decode cX3_rim 55 = .ok (.imul, 1) := by decide +kernel
theorem dX3_rim_56 : decode cX3_rim 56 = .ok (.aload_n 0, 1) := by decide +kernel
theorem dX3_rim_57 : decode cX3_rim 57 = .ok (.iload_n 1, 1) := by decide +kernel
theorem dX3_rim_58 : decode cX3_rim 58 = .ok (.iload_n 2, 1) := by decide +kernel
theorem dX3_rim_59 : decode cX3_rim 59 = .ok (.iconst 1, 1) := by decide +kernel
theorem dX3_rim_60 : decode cX3_rim 60 = .ok (.iadd, 1) := by decide +kernel
theorem dX3_rim_61 : decode cX3_rim 61 = .ok (.iconst 3, 1) := by decide +kernel
theorem dX3_rim_62 : decode cX3_rim 62 = .ok (.iand, 1) := by decide +kernel
theorem dX3_rim_63 : decode cX3_rim 63 = .ok (.invokevirtual 82, 3) := by decide +kernel
theorem dX3_rim_66 : decode cX3_rim 66 = .ok (.iconst 1, 1) := by decide +kernel
theorem dX3_rim_67 : decode cX3_rim 67 = .ok (.ishr, 1) := by decide +kernel
theorem dX3_rim_68 : decode cX3_rim 68 = .ok (.iadd, 1) := by decide +kernel
theorem dX3_rim_69 : decode cX3_rim 69 = .ok (.ireturn, 1) := by decide +kernel
theorem dX3_timesAmongRims_0 : decode cX3_timesAmongRims 0 = .ok (.iconst 0, 1) := by decide +kernel
theorem dX3_timesAmongRims_1 : decode cX3_timesAmongRims 1 = .ok (.istore_n 2, 1) := by decide +kernel
theorem dX3_timesAmongRims_2 : decode cX3_timesAmongRims 2 = .ok (.iconst 0, 1) := by decide +kernel
theorem dX3_timesAmongRims_3 : decode cX3_timesAmongRims 3 = .ok (.istore_n 3, 1) := by decide +kernel
theorem dX3_timesAmongRims_4 : decode cX3_timesAmongRims 4 = .ok (.iload_n 3, 1) := by decide +kernel
theorem dX3_timesAmongRims_5 : decode cX3_timesAmongRims 5 = .ok (.iconst 4, 1) := by decide +kernel
theorem dX3_timesAmongRims_6 : decode cX3_timesAmongRims 6 = .ok (.aload_n 0, 1) := by decide +kernel
theorem dX3_timesAmongRims_7 : decode cX3_timesAmongRims 7 = .ok (.getfield 21, 3) := by decide +kernel
theorem dX3_timesAmongRims_10 : decode cX3_timesAmongRims 10 = .ok (.imul, 1) := by decide +kernel
theorem dX3_timesAmongRims_11 : decode cX3_timesAmongRims 11 = .ok (.if_icmp .ge 27, 3) := by decide +kernel
theorem dX3_timesAmongRims_14 : decode cX3_timesAmongRims 14 = .ok (.iload_n 2, 1) := by decide +kernel
theorem dX3_timesAmongRims_15 : decode cX3_timesAmongRims 15 = .ok (.aload_n 0, 1) := by decide +kernel
theorem dX3_timesAmongRims_16 : decode cX3_timesAmongRims 16 = .ok (.getfield 18, 3) := by decide +kernel
theorem dX3_timesAmongRims_19 : decode cX3_timesAmongRims 19 = .ok (.iload_n 3, 1) := by decide +kernel
theorem dX3_timesAmongRims_20 : decode cX3_timesAmongRims 20 = .ok (.iaload, 1) := by decide +kernel
theorem dX3_timesAmongRims_21 : decode cX3_timesAmongRims 21 = .ok (.iload_n 1, 1) := by decide +kernel
theorem dX3_timesAmongRims_22 : decode cX3_timesAmongRims 22 = .ok (.if_icmp .ne 7, 3) := by decide +kernel
theorem dX3_timesAmongRims_25 : decode cX3_timesAmongRims 25 = .ok (.iconst 1, 1) := by decide +kernel
theorem dX3_timesAmongRims_26 : decode cX3_timesAmongRims 26 = .ok (.goto 4, 3) := by decide +kernel
theorem dX3_timesAmongRims_29 : decode cX3_timesAmongRims 29 = .ok (.iconst 0, 1) := by decide +kernel
theorem dX3_timesAmongRims_30 : decode cX3_timesAmongRims 30 = .ok (.iadd, 1) := by decide +kernel
theorem dX3_timesAmongRims_31 : decode cX3_timesAmongRims 31 = .ok (.istore_n 2, 1) := by decide +kernel
theorem dX3_timesAmongRims_32 : decode cX3_timesAmongRims 32 = .ok (.iinc 3 1, 3) := by decide +kernel
theorem dX3_timesAmongRims_35 : decode cX3_timesAmongRims 35 = .ok (.goto (-31), 3) := by decide +kernel
theorem dX3_timesAmongRims_38 : decode cX3_timesAmongRims 38 = .ok (.iload_n 2, 1) := by decide +kernel
theorem dX3_timesAmongRims_39 : decode cX3_timesAmongRims 39 = .ok (.ireturn, 1) := by decide +kernel
theorem dX4_init_0 : decode cX4_init 0 = .ok (.aload_n 0, 1) := by decide +kernel
theorem dX4_init_1 : decode cX4_init 1 = .ok (.invokespecial 1, 3) := by decide +kernel
theorem dX4_init_4 : decode cX4_init 4 = .ok (.aload_n 0, 1) := by decide +kernel
theorem dX4_init_5 : decode cX4_init 5 = .ok (.sipush 240, 3) := by decide +kernel
theorem dX4_init_8 : decode cX4_init 8 = .ok (.newarray .int, 2) := by decide +kernel
theorem dX4_init_10 : decode cX4_init 10 = .ok (.putfield 11, 3) := by decide +kernel
theorem dX4_init_13 : decode cX4_init 13 = .ok (.aload_n 0, 1) := by decide +kernel
theorem dX4_init_14 : decode cX4_init 14 = .ok (.sipush 240, 3) := by decide +kernel
theorem dX4_init_17 : decode cX4_init 17 = .ok (.newarray .int, 2) := by decide +kernel
theorem dX4_init_19 : decode cX4_init 19 = .ok (.putfield 15, 3) := by decide +kernel
theorem dX4_init_22 : decode cX4_init 22 = .ok (.aload_n 0, 1) := by decide +kernel
theorem dX4_init_23 : decode cX4_init 23 = .ok (.bipush 60, 2) := by decide +kernel
theorem dX4_init_25 : decode cX4_init 25 = .ok (.newarray .int, 2) := by decide +kernel
theorem dX4_init_27 : decode cX4_init 27 = .ok (.putfield 18, 3) := by decide +kernel
theorem dX4_init_30 : decode cX4_init 30 = .ok (.aload_n 0, 1) := by decide +kernel
theorem dX4_init_31 : decode cX4_init 31 = .ok (.iconst 0, 1) := by decide +kernel
theorem dX4_init_32 : decode cX4_init 32 = .ok (.putfield 21, 3) := by decide +kernel
theorem dX4_init_35 : decode cX4_init 35 = .ok (.aload_n 0, 1) := by decide +kernel
theorem dX4_init_36 : decode cX4_init 36 = .ok (.iconst 0, 1) := by decide +kernel
theorem dX4_init_37 : decode cX4_init 37 = .ok (.putfield 25, 3) := by decide +kernel
theorem dX4_init_40 : decode cX4_init 40 = .ok (.return_, 1) := by decide +kernel
theorem dX4_length_0 : decode cX4_length 0 = .ok (.aload_n 0, 1) := by decide +kernel
theorem dX4_length_1 : decode cX4_length 1 = .ok (.getfield 21, 3) := by decide +kernel
theorem dX4_length_4 : decode cX4_length 4 = .ok (.ireturn, 1) := by decide +kernel
theorem dX4_number_0 : decode cX4_number 0 = .ok (.aload_n 0, 1) := by decide +kernel
theorem dX4_number_1 : decode cX4_number 1 = .ok (.getfield 11, 3) := by decide +kernel
theorem dX4_number_4 : decode cX4_number 4 = .ok (.iload_n 1, 1) := by decide +kernel
theorem dX4_number_5 : decode cX4_number 5 = .ok (.iaload, 1) := by decide +kernel
theorem dX4_number_6 : decode cX4_number 6 = .ok (.ireturn, 1) := by decide +kernel
theorem dX4_timesWritten_0 : decode cX4_timesWritten 0 = .ok (.aload_n 0, 1) := by decide +kernel
theorem dX4_timesWritten_1 : decode cX4_timesWritten 1 = .ok (.getfield 25, 3) := by decide +kernel
theorem dX4_timesWritten_4 : decode cX4_timesWritten 4 = .ok (.ireturn, 1) := by decide +kernel
theorem dX4_matches_0 : decode cX4_matches 0 = .ok (.aload_n 0, 1) := by decide +kernel
theorem dX4_matches_1 : decode cX4_matches 1 = .ok (.getfield 21, 3) := by decide +kernel
theorem dX4_matches_4 : decode cX4_matches 4 = .ok (.aload_n 1, 1) := by decide +kernel
theorem dX4_matches_5 : decode cX4_matches 5 = .ok (.getfield 21, 3) := by decide +kernel
theorem dX4_matches_8 : decode cX4_matches 8 = .ok (.if_icmp .eq 5, 3) := by decide +kernel
theorem dX4_matches_11 : decode cX4_matches 11 = .ok (.iconst 0, 1) := by decide +kernel
theorem dX4_matches_12 : decode cX4_matches 12 = .ok (.ireturn, 1) := by decide +kernel
theorem dX4_matches_13 : decode cX4_matches 13 = .ok (.aload_n 0, 1) := by decide +kernel
theorem dX4_matches_14 : decode cX4_matches 14 = .ok (.aload_n 0, 1) := by decide +kernel
theorem dX4_matches_15 : decode cX4_matches 15 = .ok (.getfield 11, 3) := by decide +kernel
theorem dX4_matches_18 : decode cX4_matches 18 = .ok (.aload_n 1, 1) := by decide +kernel
theorem dX4_matches_19 : decode cX4_matches 19 = .ok (.getfield 11, 3) := by decide +kernel
theorem dX4_matches_22 : decode cX4_matches 22 = .ok (.invokevirtual 28, 3) := by decide +kernel
theorem dX4_matches_25 : decode cX4_matches 25 = .ok (.ifCond .ne 7, 3) := by decide +kernel
theorem dX4_matches_28 : decode cX4_matches 28 = .ok (.iconst 1, 1) := by decide +kernel
theorem dX4_matches_29 : decode cX4_matches 29 = .ok (.goto 4, 3) := by decide +kernel
theorem dX4_matches_32 : decode cX4_matches 32 = .ok (.iconst 0, 1) := by decide +kernel
theorem dX4_matches_33 : decode cX4_matches 33 = .ok (.ireturn, 1) := by decide +kernel
theorem dX4_take_0 : decode cX4_take 0 = .ok (.aload_n 0, 1) := by decide +kernel
theorem dX4_take_1 : decode cX4_take 1 = .ok (.iconst 4, 1) := by decide +kernel
theorem dX4_take_2 : decode cX4_take 2 = .ok (.aload_n 1, 1) := by decide +kernel
theorem dX4_take_3 : decode cX4_take 3 = .ok (.invokevirtual 32, 3) := by decide +kernel
theorem dX4_take_6 : decode cX4_take 6 = .ok (.imul, 1) := by decide +kernel
theorem dX4_take_7 : decode cX4_take 7 = .ok (.putfield 21, 3) := by decide +kernel
theorem dX4_take_10 : decode cX4_take 10 = .ok (.aload_n 0, 1) := by decide +kernel
theorem dX4_take_11 : decode cX4_take 11 = .ok (.iconst 0, 1) := by decide +kernel
theorem dX4_take_12 : decode cX4_take 12 = .ok (.putfield 25, 3) := by decide +kernel
theorem dX4_take_15 : decode cX4_take 15 = .ok (.iconst 0, 1) := by decide +kernel
theorem dX4_take_16 : decode cX4_take 16 = .ok (.istore_n 2, 1) := by decide +kernel
theorem dX4_take_17 : decode cX4_take 17 = .ok (.iload_n 2, 1) := by decide +kernel
theorem dX4_take_18 : decode cX4_take 18 = .ok (.bipush 8, 2) := by decide +kernel
theorem dX4_take_20 : decode cX4_take 20 = .ok (.if_icmp .ge 94, 3) := by decide +kernel
theorem dX4_take_23 : decode cX4_take 23 = .ok (.aload_n 0, 1) := by decide +kernel
theorem dX4_take_24 : decode cX4_take 24 = .ok (.aload_n 1, 1) := by decide +kernel
theorem dX4_take_25 : decode cX4_take 25 = .ok (.iload_n 2, 1) := by decide +kernel
theorem dX4_take_26 : decode cX4_take 26 = .ok (.iconst 3, 1) := by decide +kernel
theorem dX4_take_27 : decode cX4_take 27 = .ok (.iand, 1) := by decide +kernel
theorem dX4_take_28 : decode cX4_take 28 = .ok (.iload_n 2, 1) := by decide +kernel
theorem dX4_take_29 : decode cX4_take 29 = .ok (.iconst 4, 1) := by decide +kernel
theorem dX4_take_30 : decode cX4_take 30 = .ok (.if_icmp .lt 7, 3) := by decide +kernel
theorem dX4_take_33 : decode cX4_take 33 = .ok (.iconst 1, 1) := by decide +kernel
theorem dX4_take_34 : decode cX4_take 34 = .ok (.goto 4, 3) := by decide +kernel
theorem dX4_take_37 : decode cX4_take 37 = .ok (.iconst 0, 1) := by decide +kernel
theorem dX4_take_38 : decode cX4_take 38 = .ok (.invokevirtual 35, 3) := by decide +kernel
theorem dX4_take_41 : decode cX4_take 41 = .ok (.aload_n 0, 1) := by decide +kernel
theorem dX4_take_42 : decode cX4_take 42 = .ok (.getfield 25, 3) := by decide +kernel
theorem dX4_take_45 : decode cX4_take 45 = .ok (.ifCond .ne 7, 3) := by decide +kernel
theorem dX4_take_48 : decode cX4_take 48 = .ok (.iconst (-1), 1) := by decide +kernel
theorem dX4_take_49 : decode cX4_take 49 = .ok (.goto 15, 3) := by decide +kernel
theorem dX4_take_52 : decode cX4_take 52 = .ok (.aload_n 0, 1) := by decide +kernel
theorem dX4_take_53 : decode cX4_take 53 = .ok (.aload_n 0, 1) := by decide +kernel
theorem dX4_take_54 : decode cX4_take 54 = .ok (.getfield 15, 3) := by decide +kernel
theorem dX4_take_57 : decode cX4_take 57 = .ok (.aload_n 0, 1) := by decide +kernel
theorem dX4_take_58 : decode cX4_take 58 = .ok (.getfield 11, 3) := by decide +kernel
theorem dX4_take_61 : decode cX4_take 61 = .ok (.invokevirtual 28, 3) := by decide +kernel
theorem dX4_take_64 : decode cX4_take 64 = .ok (.istore_n 3, 1) := by decide +kernel
theorem dX4_take_65 : decode cX4_take 65 = .ok (.iload_n 3, 1) := by decide +kernel
theorem dX4_take_66 : decode cX4_take 66 = .ok (.ifCond .ge 28, 3) := by decide +kernel
theorem dX4_take_69 : decode cX4_take 69 = .ok (.aload_n 0, 1) := by decide +kernel
theorem dX4_take_70 : decode cX4_take 70 = .ok (.getfield 15, 3) := by decide +kernel
theorem dX4_take_73 : decode cX4_take 73 = .ok (.iconst 0, 1) := by decide +kernel
theorem dX4_take_74 : decode cX4_take 74 = .ok (.aload_n 0, 1) := by decide +kernel
theorem dX4_take_75 : decode cX4_take 75 = .ok (.getfield 11, 3) := by decide +kernel
theorem dX4_take_78 : decode cX4_take 78 = .ok (.iconst 0, 1) := by decide +kernel
theorem dX4_take_79 : decode cX4_take 79 = .ok (.aload_n 0, 1) := by decide +kernel
theorem dX4_take_80 : decode cX4_take 80 = .ok (.getfield 21, 3) := by decide +kernel
theorem dX4_take_83 : decode cX4_take 83 = .ok (.invokestatic 39, 3) := by decide +kernel
theorem dX4_take_86 : decode cX4_take 86 = .ok (.aload_n 0, 1) := by decide +kernel
theorem dX4_take_87 : decode cX4_take 87 = .ok (.iconst 1, 1) := by decide +kernel
theorem dX4_take_88 : decode cX4_take 88 = .ok (.putfield 25, 3) := by decide +kernel
theorem dX4_take_91 : decode cX4_take 91 = .ok (.goto 17, 3) := by decide +kernel
theorem dX4_take_94 : decode cX4_take 94 = .ok (.iload_n 3, 1) := by decide +kernel
theorem dX4_take_95 : decode cX4_take 95 = .ok (.ifCond .ne 13, 3) := by decide +kernel
theorem dX4_take_98 : decode cX4_take 98 = .ok (.aload_n 0, 1) := by decide +kernel
theorem dX4_take_99 : decode cX4_take 99 = .ok (.dup, 1) := by decide +kernel
theorem dX4_take_100 : decode cX4_take 100 = .ok (.getfield 25, 3) := by decide +kernel
theorem dX4_take_103 : decode cX4_take 103 = .ok (.iconst 1, 1) := by decide +kernel
theorem dX4_take_104 : decode cX4_take 104 = .ok (.iadd, 1) := by decide +kernel
theorem dX4_take_105 : decode cX4_take 105 = .ok (.putfield 25, 3) := by decide +kernel
theorem dX4_take_108 : decode cX4_take 108 = .ok (.iinc 2 1, 3) := by decide +kernel
theorem dX4_take_111 : decode cX4_take 111 = .ok (.goto (-94), 3) := by decide +kernel
theorem dX4_take_114 : decode cX4_take 114 = .ok (.return_, 1) := by decide +kernel
theorem dX4_compare_0 : decode cX4_compare 0 = .ok (.iconst 0, 1) := by decide +kernel
theorem dX4_compare_1 : decode cX4_compare 1 = .ok (.istore_n 3, 1) := by decide +kernel
theorem dX4_compare_2 : decode cX4_compare 2 = .ok (.iload_n 3, 1) := by decide +kernel
theorem dX4_compare_3 : decode cX4_compare 3 = .ok (.aload_n 0, 1) := by decide +kernel
theorem dX4_compare_4 : decode cX4_compare 4 = .ok (.getfield 21, 3) := by decide +kernel
theorem dX4_compare_7 : decode cX4_compare 7 = .ok (.if_icmp .ge 33, 3) := by decide +kernel
theorem dX4_compare_10 : decode cX4_compare 10 = .ok (.aload_n 1, 1) := by decide +kernel
theorem dX4_compare_11 : decode cX4_compare 11 = .ok (.iload_n 3, 1) := by decide +kernel
theorem dX4_compare_12 : decode cX4_compare 12 = .ok (.iaload, 1) := by decide +kernel
theorem dX4_compare_13 : decode cX4_compare 13 = .ok (.aload_n 2, 1) := by decide +kernel
theorem dX4_compare_14 : decode cX4_compare 14 = .ok (.iload_n 3, 1) := by decide +kernel
theorem dX4_compare_15 : decode cX4_compare 15 = .ok (.iaload, 1) := by decide +kernel
theorem dX4_compare_16 : decode cX4_compare 16 = .ok (.if_icmp .eq 18, 3) := by decide +kernel
theorem dX4_compare_19 : decode cX4_compare 19 = .ok (.aload_n 1, 1) := by decide +kernel
theorem dX4_compare_20 : decode cX4_compare 20 = .ok (.iload_n 3, 1) := by decide +kernel
theorem dX4_compare_21 : decode cX4_compare 21 = .ok (.iaload, 1) := by decide +kernel
theorem dX4_compare_22 : decode cX4_compare 22 = .ok (.aload_n 2, 1) := by decide +kernel
theorem dX4_compare_23 : decode cX4_compare 23 = .ok (.iload_n 3, 1) := by decide +kernel
theorem dX4_compare_24 : decode cX4_compare 24 = .ok (.iaload, 1) := by decide +kernel
theorem dX4_compare_25 : decode cX4_compare 25 = .ok (.if_icmp .ge 7, 3) := by decide +kernel
theorem dX4_compare_28 : decode cX4_compare 28 = .ok (.iconst (-1), 1) := by decide +kernel
theorem dX4_compare_29 : decode cX4_compare 29 = .ok (.goto 4, 3) := by decide +kernel
theorem dX4_compare_32 : decode cX4_compare 32 = .ok (.iconst 1, 1) := by decide +kernel
theorem dX4_compare_33 : decode cX4_compare 33 = .ok (.ireturn, 1) := by decide +kernel
theorem dX4_compare_34 : decode cX4_compare 34 = .ok (.iinc 3 1, 3) := by decide +kernel
theorem dX4_compare_37 : decode cX4_compare 37 = .ok (.goto (-35), 3) := by decide +kernel
theorem dX4_compare_40 : decode cX4_compare 40 = .ok (.iconst 0, 1) := by decide +kernel
theorem dX4_compare_41 : decode cX4_compare 41 = .ok (.ireturn, 1) := by decide +kernel
theorem dX4_write_0 : decode cX4_write 0 = .ok (.bipush 30, 2) := by decide +kernel
theorem dX4_write_2 : decode cX4_write 2 = .ok (.istore 4, 2) := by decide +kernel
theorem dX4_write_4 : decode cX4_write 4 = .ok (.bipush 30, 2) := by decide +kernel
theorem dX4_write_6 : decode cX4_write 6 = .ok (.istore 5, 2) := by decide +kernel
theorem dX4_write_8 : decode cX4_write 8 = .ok (.iconst 0, 1) := by decide +kernel
theorem dX4_write_9 : decode cX4_write 9 = .ok (.istore 6, 2) := by decide +kernel
theorem dX4_write_11 : decode cX4_write 11 = .ok (.iload 6, 2) := by decide +kernel
theorem dX4_write_13 : decode cX4_write 13 = .ok (.aload_n 1, 1) := by decide +kernel
theorem dX4_write_14 : decode cX4_write 14 = .ok (.invokevirtual 32, 3) := by decide +kernel
theorem dX4_write_17 : decode cX4_write 17 = .ok (.if_icmp .ge 39, 3) := by decide +kernel
theorem dX4_write_20 : decode cX4_write 20 = .ok (.iload 4, 2) := by decide +kernel
theorem dX4_write_22 : decode cX4_write 22 = .ok (.aload_n 1, 1) := by decide +kernel
theorem dX4_write_23 : decode cX4_write 23 = .ok (.iload 6, 2) := by decide +kernel
theorem dX4_write_25 : decode cX4_write 25 = .ok (.iload_n 2, 1) := by decide +kernel
theorem dX4_write_26 : decode cX4_write 26 = .ok (.iload_n 3, 1) := by decide +kernel
theorem dX4_write_27 : decode cX4_write 27 = .ok (.invokevirtual 45, 3) := by decide +kernel
theorem dX4_write_30 : decode cX4_write 30 = .ok (.invokestatic 49, 3) := by decide +kernel
theorem dX4_write_33 : decode cX4_write 33 = .ok (.istore 4, 2) := by decide +kernel
theorem dX4_write_35 : decode cX4_write 35 = .ok (.iload 5, 2) := by decide +kernel
theorem dX4_write_37 : decode cX4_write 37 = .ok (.aload_n 1, 1) := by decide +kernel
theorem dX4_write_38 : decode cX4_write 38 = .ok (.iload 6, 2) := by decide +kernel
theorem dX4_write_40 : decode cX4_write 40 = .ok (.iload_n 2, 1) := by decide +kernel
theorem dX4_write_41 : decode cX4_write 41 = .ok (.iload_n 3, 1) := by decide +kernel
theorem dX4_write_42 : decode cX4_write 42 = .ok (.invokevirtual 55, 3) := by decide +kernel
theorem dX4_write_45 : decode cX4_write 45 = .ok (.invokestatic 49, 3) := by decide +kernel
theorem dX4_write_48 : decode cX4_write 48 = .ok (.istore 5, 2) := by decide +kernel
theorem dX4_write_50 : decode cX4_write 50 = .ok (.iinc 6 1, 3) := by decide +kernel
theorem dX4_write_53 : decode cX4_write 53 = .ok (.goto (-42), 3) := by decide +kernel
theorem dX4_write_56 : decode cX4_write 56 = .ok (.iconst 0, 1) := by decide +kernel
theorem dX4_write_57 : decode cX4_write 57 = .ok (.istore 6, 2) := by decide +kernel
theorem dX4_write_59 : decode cX4_write 59 = .ok (.iload 6, 2) := by decide +kernel
theorem dX4_write_61 : decode cX4_write 61 = .ok (.aload_n 1, 1) := by decide +kernel
theorem dX4_write_62 : decode cX4_write 62 = .ok (.invokevirtual 32, 3) := by decide +kernel
theorem dX4_write_65 : decode cX4_write 65 = .ok (.if_icmp .ge 55, 3) := by decide +kernel
theorem dX4_write_68 : decode cX4_write 68 = .ok (.aload_n 1, 1) := by decide +kernel
theorem dX4_write_69 : decode cX4_write 69 = .ok (.iload 6, 2) := by decide +kernel
theorem dX4_write_71 : decode cX4_write 71 = .ok (.iload_n 2, 1) := by decide +kernel
theorem dX4_write_72 : decode cX4_write 72 = .ok (.iload_n 3, 1) := by decide +kernel
theorem dX4_write_73 : decode cX4_write 73 = .ok (.invokevirtual 45, 3) := by decide +kernel
theorem dX4_write_76 : decode cX4_write 76 = .ok (.iload 4, 2) := by decide +kernel
theorem dX4_write_78 : decode cX4_write 78 = .ok (.isub, 1) := by decide +kernel
theorem dX4_write_79 : decode cX4_write 79 = .ok (.istore 7, 2) := by decide +kernel
theorem dX4_write_81 : decode cX4_write 81 = .ok (.aload_n 1, 1) := by decide +kernel
theorem dX4_write_82 : decode cX4_write 82 = .ok (.iload 6, 2) := by decide +kernel
theorem dX4_write_84 : decode cX4_write 84 = .ok (.iload_n 2, 1) := by decide +kernel
theorem dX4_write_85 : decode cX4_write 85 = .ok (.iload_n 3, 1) := by decide +kernel
theorem dX4_write_86 : decode cX4_write 86 = .ok (.invokevirtual 55, 3) := by decide +kernel
theorem dX4_write_89 : decode cX4_write 89 = .ok (.iload 5, 2) := by decide +kernel
theorem dX4_write_91 : decode cX4_write 91 = .ok (.isub, 1) := by decide +kernel
theorem dX4_write_92 : decode cX4_write 92 = .ok (.istore 8, 2) := by decide +kernel
theorem dX4_write_94 : decode cX4_write 94 = .ok (.aload_n 0, 1) := by decide +kernel
theorem dX4_write_95 : decode cX4_write 95 = .ok (.iload 6, 2) := by decide +kernel
theorem dX4_write_97 : decode cX4_write 97 = .ok (.iload 8, 2) := by decide +kernel
theorem dX4_write_99 : decode cX4_write 99 = .ok (.bipush 12, 2) := by decide +kernel
theorem dX4_write_101 : decode cX4_write 101 = .ok (.ishl, 1) := by decide +kernel
theorem dX4_write_102 : decode cX4_write 102 = .ok (.iload 7, 2) := by decide +kernel
theorem dX4_write_104 : decode cX4_write 104 = .ok (.bipush 6, 2) := by decide +kernel
theorem dX4_write_106 : decode cX4_write 106 = .ok (.ishl, 1) := by decide +kernel
theorem dX4_write_107 : decode cX4_write 107 = .ok (.ior, 1) := by decide +kernel
theorem dX4_write_108 : decode cX4_write 108 = .ok (.iload 6, 2) := by decide +kernel
theorem dX4_write_110 : decode cX4_write 110 = .ok (.ior, 1) := by decide +kernel
theorem dX4_write_111 : decode cX4_write 111 = .ok (.invokevirtual 58, 3) := by decide +kernel
theorem dX4_write_114 : decode cX4_write 114 = .ok (.iinc 6 1, 3) := by decide +kernel
theorem dX4_write_117 : decode cX4_write 117 = .ok (.goto (-58), 3) := by decide +kernel
theorem dX4_write_120 : decode cX4_write 120 = .ok (.iconst 0, 1) := by decide +kernel
theorem dX4_write_121 : decode cX4_write 121 = .ok (.istore 6, 2) := by decide +kernel
theorem dX4_write_123 : decode cX4_write 123 = .ok (.iload 6, 2) := by decide +kernel
theorem dX4_write_125 : decode cX4_write 125 = .ok (.aload_n 1, 1) := by decide +kernel
theorem dX4_write_126 : decode cX4_write 126 = .ok (.invokevirtual 32, 3) := by decide +kernel
theorem dX4_write_129 : decode cX4_write 129 = .ok (.if_icmp .ge 104, 3) := by decide +kernel
theorem dX4_write_132 : decode cX4_write 132 = .ok (.aload_n 0, 1) := by decide +kernel
theorem dX4_write_133 : decode cX4_write 133 = .ok (.getfield 18, 3) := by decide +kernel
theorem dX4_write_136 : decode cX4_write 136 = .ok (.iload 6, 2) := by decide +kernel
theorem dX4_write_138 : decode cX4_write 138 = .ok (.iaload, 1) := by decide +kernel
theorem dX4_write_139 : decode cX4_write 139 = .ok (.bipush 63, 2) := by decide +kernel
theorem dX4_write_141 : decode cX4_write 141 = .ok (.iand, 1) := by decide +kernel
theorem dX4_write_142 : decode cX4_write 142 = .ok (.istore 7, 2) := by decide +kernel
theorem dX4_write_144 : decode cX4_write 144 = .ok (.aload_n 0, 1) := by decide +kernel
theorem dX4_write_145 : decode cX4_write 145 = .ok (.getfield 15, 3) := by decide +kernel
theorem dX4_write_148 : decode cX4_write 148 = .ok (.iconst 4, 1) := by decide +kernel
theorem dX4_write_149 : decode cX4_write 149 = .ok (.iload 6, 2) := by decide +kernel
theorem dX4_write_151 : decode cX4_write 151 = .ok (.imul, 1) := by decide +kernel
theorem dX4_write_152 : decode cX4_write 152 = .ok (.aload_n 0, 1) := by decide +kernel
theorem dX4_write_153 : decode cX4_write 153 = .ok (.getfield 18, 3) := by decide +kernel
theorem dX4_write_156 : decode cX4_write 156 = .ok (.iload 6, 2) := by decide +kernel
theorem dX4_write_158 : decode cX4_write 158 = .ok (.iaload, 1) := by decide +kernel
theorem dX4_write_159 : decode cX4_write 159 = .ok (.bipush 12, 2) := by decide +kernel
theorem dX4_write_161 : decode cX4_write 161 = .ok (.ishr, 1) := by decide +kernel
theorem dX4_write_162 : decode cX4_write 162 = .ok (.iastore, 1) := by decide +kernel
theorem dX4_write_163 : decode cX4_write 163 = .ok (.aload_n 0, 1) := by decide +kernel
theorem dX4_write_164 : decode cX4_write 164 = .ok (.getfield 15, 3) := by decide +kernel
theorem dX4_write_167 : decode cX4_write 167 = .ok (.iconst 4, 1) := by decide +kernel
theorem dX4_write_168 : decode cX4_write 168 = .ok (.iload 6, 2) := by decide +kernel
theorem dX4_write_170 : decode cX4_write 170 = .ok (.imul, 1) := by decide +kernel
theorem dX4_write_171 : decode cX4_write 171 = .ok (.iconst 1, 1) := by decide +kernel
theorem dX4_write_172 : decode cX4_write 172 = .ok (.iadd, 1) := by decide +kernel
theorem dX4_write_173 : decode cX4_write 173 = .ok (.aload_n 0, 1) := by decide +kernel
theorem dX4_write_174 : decode cX4_write 174 = .ok (.getfield 18, 3) := by decide +kernel
theorem dX4_write_177 : decode cX4_write 177 = .ok (.iload 6, 2) := by decide +kernel
theorem dX4_write_179 : decode cX4_write 179 = .ok (.iaload, 1) := by decide +kernel
theorem dX4_write_180 : decode cX4_write 180 = .ok (.bipush 6, 2) := by decide +kernel
theorem dX4_write_182 : decode cX4_write 182 = .ok (.ishr, 1) := by decide +kernel
theorem dX4_write_183 : decode cX4_write 183 = .ok (.bipush 63, 2) := by decide +kernel
theorem dX4_write_185 : decode cX4_write 185 = .ok (.iand, 1) := by decide +kernel
theorem dX4_write_186 : decode cX4_write 186 = .ok (.iastore, 1) := by decide +kernel
theorem dX4_write_187 : decode cX4_write 187 = .ok (.aload_n 0, 1) := by decide +kernel
theorem dX4_write_188 : decode cX4_write 188 = .ok (.getfield 15, 3) := by decide +kernel
theorem dX4_write_191 : decode cX4_write 191 = .ok (.iconst 4, 1) := by decide +kernel
theorem dX4_write_192 : decode cX4_write 192 = .ok (.iload 6, 2) := by decide +kernel
theorem dX4_write_194 : decode cX4_write 194 = .ok (.imul, 1) := by decide +kernel
theorem dX4_write_195 : decode cX4_write 195 = .ok (.iconst 2, 1) := by decide +kernel
theorem dX4_write_196 : decode cX4_write 196 = .ok (.iadd, 1) := by decide +kernel
theorem dX4_write_197 : decode cX4_write 197 = .ok (.aload_n 1, 1) := by decide +kernel
theorem dX4_write_198 : decode cX4_write 198 = .ok (.iload 7, 2) := by decide +kernel
theorem dX4_write_200 : decode cX4_write 200 = .ok (.iconst 0, 1) := by decide +kernel
theorem dX4_write_201 : decode cX4_write 201 = .ok (.iload_n 2, 1) := by decide +kernel
theorem dX4_write_202 : decode cX4_write 202 = .ok (.iload_n 3, 1) := by decide +kernel
theorem dX4_write_203 : decode cX4_write 203 = .ok (.invokevirtual 62, 3) := by decide +kernel
theorem dX4_write_206 : decode cX4_write 206 = .ok (.iastore, 1) := by decide +kernel
theorem dX4_write_207 : decode cX4_write 207 = .ok (.aload_n 0, 1) := by decide +kernel
theorem dX4_write_208 : decode cX4_write 208 = .ok (.getfield 15, 3) := by decide +kernel
theorem dX4_write_211 : decode cX4_write 211 = .ok (.iconst 4, 1) := by decide +kernel
theorem dX4_write_212 : decode cX4_write 212 = .ok (.iload 6, 2) := by decide +kernel
theorem dX4_write_214 : decode cX4_write 214 = .ok (.imul, 1) := by decide +kernel
theorem dX4_write_215 : decode cX4_write 215 = .ok (.iconst 3, 1) := by decide +kernel
theorem dX4_write_216 : decode cX4_write 216 = .ok (.iadd, 1) := by decide +kernel
theorem dX4_write_217 : decode cX4_write 217 = .ok (.aload_n 1, 1) := by decide +kernel
theorem dX4_write_218 : decode cX4_write 218 = .ok (.iload 7, 2) := by decide +kernel
theorem dX4_write_220 : decode cX4_write 220 = .ok (.iconst 1, 1) := by decide +kernel
theorem dX4_write_221 : decode cX4_write 221 = .ok (.iload_n 2, 1) := by decide +kernel
theorem dX4_write_222 : decode cX4_write 222 = .ok (.iload_n 3, 1) := by decide +kernel
theorem dX4_write_223 : decode cX4_write 223 = .ok (.invokevirtual 62, 3) := by decide +kernel
theorem dX4_write_226 : decode cX4_write 226 = .ok (.iastore, 1) := by decide +kernel
theorem dX4_write_227 : decode cX4_write 227 = .ok (.iinc 6 1, 3) := by decide +kernel
theorem dX4_write_230 : decode cX4_write 230 = .ok (.goto (-107), 3) := by decide +kernel
theorem dX4_write_233 : decode cX4_write 233 = .ok (.return_, 1) := by decide +kernel
theorem dX4_insertKey_0 : decode cX4_insertKey 0 = .ok (.iload_n 1, 1) := by decide +kernel
theorem dX4_insertKey_1 : decode cX4_insertKey 1 = .ok (.istore_n 3, 1) := by decide +kernel
theorem dX4_insertKey_2 : decode cX4_insertKey 2 = .ok (.iload_n 3, 1) := by decide +kernel
theorem dX4_insertKey_3 : decode cX4_insertKey 3 = .ok (.ifCond .le 35, 3) := by decide +kernel
theorem dX4_insertKey_6 : decode cX4_insertKey 6 = .ok (.aload_n 0, 1) := by decide +kernel
theorem dX4_insertKey_7 : decode cX4_insertKey 7 = .ok (.getfield 18, 3) := by decide +kernel
theorem dX4_insertKey_10 : decode cX4_insertKey 10 = .ok (.iload_n 3, 1) := by decide +kernel
theorem dX4_insertKey_11 : decode cX4_insertKey 11 = .ok (.iconst 1, 1) := by decide +kernel
theorem dX4_insertKey_12 : decode cX4_insertKey 12 = .ok (.isub, 1) := by decide +kernel
theorem dX4_insertKey_13 : decode cX4_insertKey 13 = .ok (.iaload, 1) := by decide +kernel
theorem dX4_insertKey_14 : decode cX4_insertKey 14 = .ok (.iload_n 2, 1) := by decide +kernel
theorem dX4_insertKey_15 : decode cX4_insertKey 15 = .ok (.if_icmp .le 23, 3) := by decide +kernel
theorem dX4_insertKey_18 : decode cX4_insertKey 18 = .ok (.aload_n 0, 1) := by decide +kernel
theorem dX4_insertKey_19 : decode cX4_insertKey 19 = .ok (.getfield 18, 3) := by decide +kernel
theorem dX4_insertKey_22 : decode cX4_insertKey 22 = .ok (.iload_n 3, 1) := by decide +kernel
theorem dX4_insertKey_23 : decode cX4_insertKey 23 = .ok (.aload_n 0, 1) := by decide +kernel
theorem dX4_insertKey_24 : decode cX4_insertKey 24 = .ok (.getfield 18, 3) := by decide +kernel
theorem dX4_insertKey_27 : decode cX4_insertKey 27 = .ok (.iload_n 3, 1) := by decide +kernel
theorem dX4_insertKey_28 : decode cX4_insertKey 28 = .ok (.iconst 1, 1) := by decide +kernel
theorem dX4_insertKey_29 : decode cX4_insertKey 29 = .ok (.isub, 1) := by decide +kernel
theorem dX4_insertKey_30 : decode cX4_insertKey 30 = .ok (.iaload, 1) := by decide +kernel
theorem dX4_insertKey_31 : decode cX4_insertKey 31 = .ok (.iastore, 1) := by decide +kernel
theorem dX4_insertKey_32 : decode cX4_insertKey 32 = .ok (.iinc 3 (-1), 3) := by decide +kernel
theorem dX4_insertKey_35 : decode cX4_insertKey 35 = .ok (.goto (-33), 3) := by decide +kernel
theorem dX4_insertKey_38 : decode cX4_insertKey 38 = .ok (.aload_n 0, 1) := by decide +kernel
theorem dX4_insertKey_39 : decode cX4_insertKey 39 = .ok (.getfield 18, 3) := by decide +kernel
theorem dX4_insertKey_42 : decode cX4_insertKey 42 = .ok (.iload_n 3, 1) := by decide +kernel
theorem dX4_insertKey_43 : decode cX4_insertKey 43 = .ok (.iload_n 2, 1) := by decide +kernel
theorem dX4_insertKey_44 : decode cX4_insertKey 44 = .ok (.iastore, 1) := by decide +kernel
theorem dX4_insertKey_45 : decode cX4_insertKey 45 = .ok (.return_, 1) := by decide +kernel
theorem dX5_init_0 : decode cX5_init 0 = .ok (.aload_n 0, 1) := by decide +kernel
theorem dX5_init_1 : decode cX5_init 1 = .ok (.invokespecial 1, 3) := by decide +kernel
theorem dX5_init_4 : decode cX5_init 4 = .ok (.aload_n 0, 1) := by decide +kernel
theorem dX5_init_5 : decode cX5_init 5 = .ok (.bipush 60, 2) := by decide +kernel
theorem dX5_init_7 : decode cX5_init 7 = .ok (.newarray .int, 2) := by decide +kernel
theorem dX5_init_9 : decode cX5_init 9 = .ok (.putfield 9, 3) := by decide +kernel
theorem dX5_init_12 : decode cX5_init 12 = .ok (.aload_n 0, 1) := by decide +kernel
theorem dX5_init_13 : decode cX5_init 13 = .ok (.bipush 60, 2) := by decide +kernel
theorem dX5_init_15 : decode cX5_init 15 = .ok (.newarray .int, 2) := by decide +kernel
theorem dX5_init_17 : decode cX5_init 17 = .ok (.putfield 15, 3) := by decide +kernel
theorem dX5_init_20 : decode cX5_init 20 = .ok (.aload_n 0, 1) := by decide +kernel
theorem dX5_init_21 : decode cX5_init 21 = .ok (.bipush 60, 2) := by decide +kernel
theorem dX5_init_23 : decode cX5_init 23 = .ok (.newarray .int, 2) := by decide +kernel
theorem dX5_init_25 : decode cX5_init 25 = .ok (.putfield 18, 3) := by decide +kernel
theorem dX5_init_28 : decode cX5_init 28 = .ok (.aload_n 0, 1) := by decide +kernel
theorem dX5_init_29 : decode cX5_init 29 = .ok (.bipush 60, 2) := by decide +kernel
theorem dX5_init_31 : decode cX5_init 31 = .ok (.newarray .int, 2) := by decide +kernel
theorem dX5_init_33 : decode cX5_init 33 = .ok (.putfield 21, 3) := by decide +kernel
theorem dX5_init_36 : decode cX5_init 36 = .ok (.aload_n 0, 1) := by decide +kernel
theorem dX5_init_37 : decode cX5_init 37 = .ok (.iconst 0, 1) := by decide +kernel
theorem dX5_init_38 : decode cX5_init 38 = .ok (.putfield 24, 3) := by decide +kernel
theorem dX5_init_41 : decode cX5_init 41 = .ok (.aload_n 0, 1) := by decide +kernel
theorem dX5_init_42 : decode cX5_init 42 = .ok (.iconst 0, 1) := by decide +kernel
theorem dX5_init_43 : decode cX5_init 43 = .ok (.putfield 28, 3) := by decide +kernel
theorem dX5_init_46 : decode cX5_init 46 = .ok (.return_, 1) := by decide +kernel
theorem dX5_lay_0 : decode cX5_lay 0 = .ok (.aload_n 0, 1) := by decide +kernel
theorem dX5_lay_1 : decode cX5_lay 1 = .ok (.aload_n 1, 1) := by decide +kernel
theorem dX5_lay_2 : decode cX5_lay 2 = .ok (.invokevirtual 31, 3) := by decide +kernel
theorem dX5_lay_5 : decode cX5_lay 5 = .ok (.putfield 24, 3) := by decide +kernel
theorem dX5_lay_8 : decode cX5_lay 8 = .ok (.aload_n 0, 1) := by decide +kernel
theorem dX5_lay_9 : decode cX5_lay 9 = .ok (.aload_n 1, 1) := by decide +kernel
theorem dX5_lay_10 : decode cX5_lay 10 = .ok (.aload_n 2, 1) := by decide +kernel
theorem dX5_lay_11 : decode cX5_lay 11 = .ok (.invokevirtual 37, 3) := by decide +kernel
theorem dX5_lay_14 : decode cX5_lay 14 = .ok (.aload_n 0, 1) := by decide +kernel
theorem dX5_lay_15 : decode cX5_lay 15 = .ok (.getfield 28, 3) := by decide +kernel
theorem dX5_lay_18 : decode cX5_lay 18 = .ok (.aload_n 0, 1) := by decide +kernel
theorem dX5_lay_19 : decode cX5_lay 19 = .ok (.getfield 24, 3) := by decide +kernel
theorem dX5_lay_22 : decode cX5_lay 22 = .ok (.if_icmp .ge 5, 3) := by decide +kernel
theorem dX5_lay_25 : decode cX5_lay 25 = .ok (.iconst 1, 1) := by decide +kernel
theorem dX5_lay_26 : decode cX5_lay 26 = .ok (.ireturn, 1) := by decide +kernel
theorem dX5_lay_27 : decode cX5_lay 27 = .ok (.aload_n 0, 1) := by decide +kernel
theorem dX5_lay_28 : decode cX5_lay 28 = .ok (.aload_n 1, 1) := by decide +kernel
theorem dX5_lay_29 : decode cX5_lay 29 = .ok (.aload_n 2, 1) := by decide +kernel
theorem dX5_lay_30 : decode cX5_lay 30 = .ok (.invokevirtual 41, 3) := by decide +kernel
theorem dX5_lay_33 : decode cX5_lay 33 = .ok (.ifCond .ne 5, 3) := by decide +kernel
theorem dX5_lay_36 : decode cX5_lay 36 = .ok (.iconst 2, 1) := by decide +kernel
theorem dX5_lay_37 : decode cX5_lay 37 = .ok (.ireturn, 1) := by decide +kernel
theorem dX5_lay_38 : decode cX5_lay 38 = .ok (.aload_n 0, 1) := by decide +kernel
theorem dX5_lay_39 : decode cX5_lay 39 = .ok (.invokevirtual 45, 3) := by decide +kernel
theorem dX5_lay_42 : decode cX5_lay 42 = .ok (.ifCond .eq 7, 3) := by decide +kernel
theorem dX5_lay_45 : decode cX5_lay 45 = .ok (.iconst 3, 1) := by decide +kernel
theorem dX5_lay_46 : decode cX5_lay 46 = .ok (.goto 4, 3) := by decide +kernel
theorem dX5_lay_49 : decode cX5_lay 49 = .ok (.iconst 0, 1) := by decide +kernel
theorem dX5_lay_50 : decode cX5_lay 50 = .ok (.ireturn, 1) := by decide +kernel
theorem dX5_isWithinReach_0 : decode cX5_isWithinReach 0 = .ok (.iconst 0, 1) := by decide +kernel
theorem dX5_isWithinReach_1 : decode cX5_isWithinReach 1 = .ok (.istore_n 1, 1) := by decide +kernel
theorem dX5_isWithinReach_2 : decode cX5_isWithinReach 2 = .ok (.iload_n 1, 1) := by decide +kernel
theorem dX5_isWithinReach_3 : decode cX5_isWithinReach 3 = .ok (.aload_n 0, 1) := by decide +kernel
theorem dX5_isWithinReach_4 : decode cX5_isWithinReach 4 = .ok (.getfield 24, 3) := by decide +kernel
theorem dX5_isWithinReach_7 : decode cX5_isWithinReach 7 = .ok (.if_icmp .ge 39, 3) := by decide +kernel
theorem dX5_isWithinReach_10 : decode cX5_isWithinReach 10 = .ok (.aload_n 0, 1) := by decide +kernel
theorem dX5_isWithinReach_11 : decode cX5_isWithinReach 11 = .ok (.getfield 9, 3) := by decide +kernel
theorem dX5_isWithinReach_14 : decode cX5_isWithinReach 14 = .ok (.iload_n 1, 1) := by decide +kernel
theorem dX5_isWithinReach_15 : decode cX5_isWithinReach 15 = .ok (.iaload, 1) := by decide +kernel
theorem dX5_isWithinReach_16 : decode cX5_isWithinReach 16 = .ok (.invokestatic 49, 3) := by decide +kernel
theorem dX5_isWithinReach_19 : decode cX5_isWithinReach 19 = .ok (.bipush 30, 2) := by decide +kernel
theorem dX5_isWithinReach_21 : decode cX5_isWithinReach 21 = .ok (.if_icmp .gt 17, 3) := by decide +kernel
theorem dX5_isWithinReach_24 : decode cX5_isWithinReach 24 = .ok (.aload_n 0, 1) := by decide +kernel
theorem dX5_isWithinReach_25 : decode cX5_isWithinReach 25 = .ok (.getfield 15, 3) := by decide +kernel
theorem dX5_isWithinReach_28 : decode cX5_isWithinReach 28 = .ok (.iload_n 1, 1) := by decide +kernel
theorem dX5_isWithinReach_29 : decode cX5_isWithinReach 29 = .ok (.iaload, 1) := by decide +kernel
theorem dX5_isWithinReach_30 : decode cX5_isWithinReach 30 = .ok (.invokestatic 49, 3) := by decide +kernel
theorem dX5_isWithinReach_33 : decode cX5_isWithinReach 33 = .ok (.bipush 30, 2) := by decide +kernel
theorem dX5_isWithinReach_35 : decode cX5_isWithinReach 35 = .ok (.if_icmp .le 5, 3) := by decide +kernel
theorem dX5_isWithinReach_38 : decode cX5_isWithinReach 38 = .ok (.iconst 0, 1) := by decide +kernel
theorem dX5_isWithinReach_39 : decode cX5_isWithinReach 39 = .ok (.ireturn, 1) := by decide +kernel
theorem dX5_isWithinReach_40 : decode cX5_isWithinReach 40 = .ok (.iinc 1 1, 3) := by decide +kernel
theorem dX5_isWithinReach_43 : decode cX5_isWithinReach 43 = .ok (.goto (-41), 3) := by decide +kernel
theorem dX5_isWithinReach_46 : decode cX5_isWithinReach 46 = .ok (.iconst 1, 1) := by decide +kernel
theorem dX5_isWithinReach_47 : decode cX5_isWithinReach 47 = .ok (.ireturn, 1) := by decide +kernel
theorem dX5_drawOn_0 : decode cX5_drawOn 0 = .ok (.aload_n 1, 1) := by decide +kernel
theorem dX5_drawOn_1 : decode cX5_drawOn 1 = .ok (.invokevirtual 55, 3) := by decide +kernel
theorem dX5_drawOn_4 : decode cX5_drawOn 4 = .ok (.iconst 0, 1) := by decide +kernel
theorem dX5_drawOn_5 : decode cX5_drawOn 5 = .ok (.istore 4, 2) := by decide +kernel
theorem dX5_drawOn_7 : decode cX5_drawOn 7 = .ok (.iload 4, 2) := by decide +kernel
theorem dX5_drawOn_9 : decode cX5_drawOn 9 = .ok (.aload_n 0, 1) := by decide +kernel
theorem dX5_drawOn_10 : decode cX5_drawOn 10 = .ok (.getfield 24, 3) := by decide +kernel
theorem dX5_drawOn_13 : decode cX5_drawOn 13 = .ok (.if_icmp .ge 28, 3) := by decide +kernel
theorem dX5_drawOn_16 : decode cX5_drawOn 16 = .ok (.aload_n 1, 1) := by decide +kernel
theorem dX5_drawOn_17 : decode cX5_drawOn 17 = .ok (.aload_n 0, 1) := by decide +kernel
theorem dX5_drawOn_18 : decode cX5_drawOn 18 = .ok (.getfield 9, 3) := by decide +kernel
theorem dX5_drawOn_21 : decode cX5_drawOn 21 = .ok (.iload 4, 2) := by decide +kernel
theorem dX5_drawOn_23 : decode cX5_drawOn 23 = .ok (.iaload, 1) := by decide +kernel
theorem dX5_drawOn_24 : decode cX5_drawOn 24 = .ok (.aload_n 0, 1) := by decide +kernel
theorem dX5_drawOn_25 : decode cX5_drawOn 25 = .ok (.getfield 15, 3) := by decide +kernel
theorem dX5_drawOn_28 : decode cX5_drawOn 28 = .ok (.iload 4, 2) := by decide +kernel
theorem dX5_drawOn_30 : decode cX5_drawOn 30 = .ok (.iaload, 1) := by decide +kernel
theorem dX5_drawOn_31 : decode cX5_drawOn 31 = .ok (.invokevirtual 58, 3) := by decide +kernel
theorem dX5_drawOn_34 : decode cX5_drawOn 34 = .ok (.pop, 1) := by decide +kernel
theorem dX5_drawOn_35 : decode cX5_drawOn 35 = .ok (.iinc 4 1, 3) := by decide +kernel
theorem dX5_drawOn_38 : decode cX5_drawOn 38 = .ok (.goto (-31), 3) := by decide +kernel
theorem dX5_drawOn_41 : decode cX5_drawOn 41 = .ok (.iconst 0, 1) := by decide +kernel
theorem dX5_drawOn_42 : decode cX5_drawOn 42 = .ok (.istore 4, 2) := by decide +kernel
theorem dX5_drawOn_44 : decode cX5_drawOn 44 = .ok (.iload 4, 2) := by decide +kernel
theorem dX5_drawOn_46 : decode cX5_drawOn 46 = .ok (.aload_n 0, 1) := by decide +kernel
theorem dX5_drawOn_47 : decode cX5_drawOn 47 = .ok (.getfield 24, 3) := by decide +kernel
theorem dX5_drawOn_50 : decode cX5_drawOn 50 = .ok (.if_icmp .ge 117, 3) := by decide +kernel
theorem dX5_drawOn_53 : decode cX5_drawOn 53 = .ok (.aload_n 1, 1) := by decide +kernel
theorem dX5_drawOn_54 : decode cX5_drawOn 54 = .ok (.aload_n 0, 1) := by decide +kernel
theorem dX5_drawOn_55 : decode cX5_drawOn 55 = .ok (.getfield 9, 3) := by decide +kernel
theorem dX5_drawOn_58 : decode cX5_drawOn 58 = .ok (.iload 4, 2) := by decide +kernel
theorem dX5_drawOn_60 : decode cX5_drawOn 60 = .ok (.iaload, 1) := by decide +kernel
theorem dX5_drawOn_61 : decode cX5_drawOn 61 = .ok (.aload_n 0, 1) := by decide +kernel
theorem dX5_drawOn_62 : decode cX5_drawOn 62 = .ok (.getfield 15, 3) := by decide +kernel
theorem dX5_drawOn_65 : decode cX5_drawOn 65 = .ok (.iload 4, 2) := by decide +kernel
theorem dX5_drawOn_67 : decode cX5_drawOn 67 = .ok (.iaload, 1) := by decide +kernel
theorem dX5_drawOn_68 : decode cX5_drawOn 68 = .ok (.invokevirtual 62, 3) := by decide +kernel
theorem dX5_drawOn_71 : decode cX5_drawOn 71 = .ok (.istore 5, 2) := by decide +kernel
theorem dX5_drawOn_73 : decode cX5_drawOn 73 = .ok (.iconst 0, 1) := by decide +kernel
theorem dX5_drawOn_74 : decode cX5_drawOn 74 = .ok (.istore 6, 2) := by decide +kernel
theorem dX5_drawOn_76 : decode cX5_drawOn 76 = .ok (.iload 6, 2) := by decide +kernel
theorem dX5_drawOn_78 : decode cX5_drawOn 78 = .ok (.iconst 4, 1) := by decide +kernel
theorem dX5_drawOn_79 : decode cX5_drawOn 79 = .ok (.if_icmp .ge 82, 3) := by decide +kernel
theorem dX5_drawOn_82 : decode cX5_drawOn 82 = .ok (.iload 6, 2) := by decide +kernel
theorem dX5_drawOn_84 : decode cX5_drawOn 84 = .ok (.aload_n 0, 1) := by decide +kernel
theorem dX5_drawOn_85 : decode cX5_drawOn 85 = .ok (.getfield 18, 3) := by decide +kernel
theorem dX5_drawOn_88 : decode cX5_drawOn 88 = .ok (.iload 4, 2) := by decide +kernel
theorem dX5_drawOn_90 : decode cX5_drawOn 90 = .ok (.iaload, 1) := by decide +kernel
theorem dX5_drawOn_91 : decode cX5_drawOn 91 = .ok (.iadd, 1) := by decide +kernel
theorem dX5_drawOn_92 : decode cX5_drawOn 92 = .ok (.iconst 3, 1) := by decide +kernel
theorem dX5_drawOn_93 : decode cX5_drawOn 93 = .ok (.iand, 1) := by decide +kernel
theorem dX5_drawOn_94 : decode cX5_drawOn 94 = .ok (.istore 7, 2) := by decide +kernel
theorem dX5_drawOn_96 : decode cX5_drawOn 96 = .ok (.iload 5, 2) := by decide +kernel
theorem dX5_drawOn_98 : decode cX5_drawOn 98 = .ok (.ifCond .ge 7, 3) := by decide +kernel
theorem dX5_drawOn_101 : decode cX5_drawOn 101 = .ok (.iconst (-1), 1) := by decide +kernel
theorem dX5_drawOn_102 : decode cX5_drawOn 102 = .ok (.goto 11, 3) := by decide +kernel
theorem dX5_drawOn_105 : decode cX5_drawOn 105 = .ok (.aload_n 1, 1) := by decide +kernel
theorem dX5_drawOn_106 : decode cX5_drawOn 106 = .ok (.iload 5, 2) := by decide +kernel
theorem dX5_drawOn_108 : decode cX5_drawOn 108 = .ok (.iload 7, 2) := by decide +kernel
theorem dX5_drawOn_110 : decode cX5_drawOn 110 = .ok (.invokevirtual 65, 3) := by decide +kernel
theorem dX5_drawOn_113 : decode cX5_drawOn 113 = .ok (.istore 8, 2) := by decide +kernel
theorem dX5_drawOn_115 : decode cX5_drawOn 115 = .ok (.iload 8, 2) := by decide +kernel
theorem dX5_drawOn_117 : decode cX5_drawOn 117 = .ok (.ifCond .lt 38, 3) := by decide +kernel
theorem dX5_drawOn_120 : decode cX5_drawOn 120 = .ok (.aload_n 3, 1) := by decide +kernel
theorem dX5_drawOn_121 : decode cX5_drawOn 121 = .ok (.iload 4, 2) := by decide +kernel
theorem dX5_drawOn_123 : decode cX5_drawOn 123 = .ok (.iload 6, 2) := by decide +kernel
theorem dX5_drawOn_125 : decode cX5_drawOn 125 = .ok (.invokevirtual 68, 3) := by decide +kernel
theorem dX5_drawOn_128 : decode cX5_drawOn 128 = .ok (.ifCond .ne 27, 3) := by decide +kernel
theorem dX5_drawOn_131 : decode cX5_drawOn 131 = .ok (.iconst 2, 1) := by decide +kernel
theorem dX5_drawOn_132 : decode cX5_drawOn 132 = .ok (.aload_n 2, 1) := by decide +kernel
theorem dX5_drawOn_133 : decode cX5_drawOn 133 = .ok (.iload 4, 2) := by decide +kernel
theorem dX5_drawOn_135 : decode cX5_drawOn 135 = .ok (.iload 6, 2) := by decide +kernel
theorem dX5_drawOn_137 : decode cX5_drawOn 137 = .ok (.invokevirtual 74, 3) := by decide +kernel
theorem dX5_drawOn_140 : decode cX5_drawOn 140 = .ok (.iadd, 1) := by decide +kernel
theorem dX5_drawOn_141 : decode cX5_drawOn 141 = .ok (.istore 9, 2) := by decide +kernel
theorem dX5_drawOn_143 : decode cX5_drawOn 143 = .ok (.aload_n 1, 1) := by decide +kernel
theorem dX5_drawOn_144 : decode cX5_drawOn 144 = .ok (.iload 5, 2) := by decide +kernel
theorem dX5_drawOn_146 : decode cX5_drawOn 146 = .ok (.iload 8, 2) := by decide +kernel
theorem dX5_drawOn_148 : decode cX5_drawOn 148 = .ok (.iload 7, 2) := by decide +kernel
theorem dX5_drawOn_150 : decode cX5_drawOn 150 = .ok (.iload 9, 2) := by decide +kernel
theorem dX5_drawOn_152 : decode cX5_drawOn 152 = .ok (.invokevirtual 77, 3) := by decide +kernel
theorem dX5_drawOn_155 : decode cX5_drawOn 155 = .ok (.iinc 6 1, 3) := by decide +kernel
theorem dX5_drawOn_158 : decode cX5_drawOn 158 = .ok (.goto (-82), 3) := by decide +kernel
theorem dX5_drawOn_161 : decode cX5_drawOn 161 = .ok (.iinc 4 1, 3) := by decide +kernel
theorem dX5_drawOn_164 : decode cX5_drawOn 164 = .ok (.goto (-120), 3) := by decide +kernel
theorem dX5_drawOn_167 : decode cX5_drawOn 167 = .ok (.return_, 1) := by decide +kernel
theorem dX5_layAll_0 : decode cX5_layAll 0 = .ok (.aload_n 0, 1) := by decide +kernel
theorem dX5_layAll_1 : decode cX5_layAll 1 = .ok (.getfield 18, 3) := by decide +kernel
theorem dX5_layAll_4 : decode cX5_layAll 4 = .ok (.iconst (-1), 1) := by decide +kernel
theorem dX5_layAll_5 : decode cX5_layAll 5 = .ok (.invokestatic 81, 3) := by decide +kernel
theorem dX5_layAll_8 : decode cX5_layAll 8 = .ok (.aload_n 0, 1) := by decide +kernel
theorem dX5_layAll_9 : decode cX5_layAll 9 = .ok (.iconst 0, 1) := by decide +kernel
theorem dX5_layAll_10 : decode cX5_layAll 10 = .ok (.putfield 28, 3) := by decide +kernel
theorem dX5_layAll_13 : decode cX5_layAll 13 = .ok (.aload_n 0, 1) := by decide +kernel
theorem dX5_layAll_14 : decode cX5_layAll 14 = .ok (.iconst 0, 1) := by decide +kernel
theorem dX5_layAll_15 : decode cX5_layAll 15 = .ok (.iconst 0, 1) := by decide +kernel
theorem dX5_layAll_16 : decode cX5_layAll 16 = .ok (.iconst 0, 1) := by decide +kernel
theorem dX5_layAll_17 : decode cX5_layAll 17 = .ok (.iconst 0, 1) := by decide +kernel
theorem dX5_layAll_18 : decode cX5_layAll 18 = .ok (.invokevirtual 87, 3) := by decide +kernel
theorem dX5_layAll_21 : decode cX5_layAll 21 = .ok (.iconst 0, 1) := by decide +kernel
theorem dX5_layAll_22 : decode cX5_layAll 22 = .ok (.istore_n 3, 1) := by decide +kernel
theorem dX5_layAll_23 : decode cX5_layAll 23 = .ok (.iload_n 3, 1) := by decide +kernel
theorem dX5_layAll_24 : decode cX5_layAll 24 = .ok (.aload_n 0, 1) := by decide +kernel
theorem dX5_layAll_25 : decode cX5_layAll 25 = .ok (.getfield 24, 3) := by decide +kernel
theorem dX5_layAll_28 : decode cX5_layAll 28 = .ok (.if_icmp .ge 127, 3) := by decide +kernel
theorem dX5_layAll_31 : decode cX5_layAll 31 = .ok (.iload_n 3, 1) := by decide +kernel
theorem dX5_layAll_32 : decode cX5_layAll 32 = .ok (.aload_n 0, 1) := by decide +kernel
theorem dX5_layAll_33 : decode cX5_layAll 33 = .ok (.getfield 28, 3) := by decide +kernel
theorem dX5_layAll_36 : decode cX5_layAll 36 = .ok (.if_icmp .ge 119, 3) := by decide +kernel
theorem dX5_layAll_39 : decode cX5_layAll 39 = .ok (.aload_n 0, 1) := by decide +kernel
theorem dX5_layAll_40 : decode cX5_layAll 40 = .ok (.getfield 21, 3) := by decide +kernel
theorem dX5_layAll_43 : decode cX5_layAll 43 = .ok (.iload_n 3, 1) := by decide +kernel
theorem dX5_layAll_44 : decode cX5_layAll 44 = .ok (.iaload, 1) := by decide +kernel
theorem dX5_layAll_45 : decode cX5_layAll 45 = .ok (.istore 4, 2) := by decide +kernel
theorem dX5_layAll_47 : decode cX5_layAll 47 = .ok (.iconst 0, 1) := by decide +kernel
theorem dX5_layAll_48 : decode cX5_layAll 48 = .ok (.istore 5, 2) := by decide +kernel
theorem dX5_layAll_50 : decode cX5_layAll 50 = .ok (.iload 5, 2) := by decide +kernel
theorem dX5_layAll_52 : decode cX5_layAll 52 = .ok (.iconst 4, 1) := by decide +kernel
theorem dX5_layAll_53 : decode cX5_layAll 53 = .ok (.if_icmp .ge 96, 3) := by decide +kernel
theorem dX5_layAll_56 : decode cX5_layAll 56 = .ok (.aload_n 1, 1) := by decide +kernel
theorem dX5_layAll_57 : decode cX5_layAll 57 = .ok (.iload 4, 2) := by decide +kernel
theorem dX5_layAll_59 : decode cX5_layAll 59 = .ok (.iload 5, 2) := by decide +kernel
theorem dX5_layAll_61 : decode cX5_layAll 61 = .ok (.invokevirtual 90, 3) := by decide +kernel
theorem dX5_layAll_64 : decode cX5_layAll 64 = .ok (.istore 6, 2) := by decide +kernel
theorem dX5_layAll_66 : decode cX5_layAll 66 = .ok (.aload_n 2, 1) := by decide +kernel
theorem dX5_layAll_67 : decode cX5_layAll 67 = .ok (.iload 4, 2) := by decide +kernel
theorem dX5_layAll_69 : decode cX5_layAll 69 = .ok (.iload 5, 2) := by decide +kernel
theorem dX5_layAll_71 : decode cX5_layAll 71 = .ok (.invokevirtual 68, 3) := by decide +kernel
theorem dX5_layAll_74 : decode cX5_layAll 74 = .ok (.ifCond .ne 69, 3) := by decide +kernel
theorem dX5_layAll_77 : decode cX5_layAll 77 = .ok (.aload_n 0, 1) := by decide +kernel
theorem dX5_layAll_78 : decode cX5_layAll 78 = .ok (.getfield 18, 3) := by decide +kernel
theorem dX5_layAll_81 : decode cX5_layAll 81 = .ok (.iload 6, 2) := by decide +kernel
theorem dX5_layAll_83 : decode cX5_layAll 83 = .ok (.iaload, 1) := by decide +kernel
theorem dX5_layAll_84 : decode cX5_layAll 84 = .ok (.iconst (-1), 1) := by decide +kernel
theorem dX5_layAll_85 : decode cX5_layAll 85 = .ok (.if_icmp .ne 58, 3) := by decide +kernel
theorem dX5_layAll_88 : decode cX5_layAll 88 = .ok (.iload 5, 2) := by decide +kernel
theorem dX5_layAll_90 : decode cX5_layAll 90 = .ok (.aload_n 0, 1) := by decide +kernel
theorem dX5_layAll_91 : decode cX5_layAll 91 = .ok (.getfield 18, 3) := by decide +kernel
theorem dX5_layAll_94 : decode cX5_layAll 94 = .ok (.iload 4, 2) := by decide +kernel
theorem dX5_layAll_96 : decode cX5_layAll 96 = .ok (.iaload, 1) := by decide +kernel
theorem dX5_layAll_97 : decode cX5_layAll 97 = .ok (.iadd, 1) := by decide +kernel
theorem dX5_layAll_98 : decode cX5_layAll 98 = .ok (.iconst 3, 1) := by decide +kernel
theorem dX5_layAll_99 : decode cX5_layAll 99 = .ok (.iand, 1) := by decide +kernel
theorem dX5_layAll_100 : decode cX5_layAll 100 = .ok (.istore 7, 2) := by decide +kernel
theorem dX5_layAll_102 : decode cX5_layAll 102 = .ok (.aload_n 0, 1) := by decide +kernel
theorem dX5_layAll_103 : decode cX5_layAll 103 = .ok (.iload 6, 2) := by decide +kernel
theorem dX5_layAll_105 : decode cX5_layAll 105 = .ok (.aload_n 0, 1) := by decide +kernel
theorem dX5_layAll_106 : decode cX5_layAll 106 = .ok (.getfield 9, 3) := by decide +kernel
theorem dX5_layAll_109 : decode cX5_layAll 109 = .ok (.iload 4, 2) := by decide +kernel
theorem dX5_layAll_111 : decode cX5_layAll 111 = .ok (.iaload, 1) := by decide +kernel
theorem dX5_layAll_112 : decode cX5_layAll 112 = .ok (.iload 7, 2) := by decide +kernel
theorem dX5_layAll_114 : decode cX5_layAll 114 = .ok (.invokestatic 93, 3) := by decide +kernel
theorem dX5_layAll_117 : decode cX5_layAll 117 = .ok (.iadd, 1) := by decide +kernel
theorem dX5_layAll_118 : decode cX5_layAll 118 = .ok (.aload_n 0, 1) := by decide +kernel
theorem dX5_layAll_119 : decode cX5_layAll 119 = .ok (.getfield 15, 3) := by decide +kernel
theorem dX5_layAll_122 : decode cX5_layAll 122 = .ok (.iload 4, 2) := by decide +kernel
theorem dX5_layAll_124 : decode cX5_layAll 124 = .ok (.iaload, 1) := by decide +kernel
theorem dX5_layAll_125 : decode cX5_layAll 125 = .ok (.iload 7, 2) := by decide +kernel
theorem dX5_layAll_127 : decode cX5_layAll 127 = .ok (.invokestatic 96, 3) := by decide +kernel
theorem dX5_layAll_130 : decode cX5_layAll 130 = .ok (.iadd, 1) := by decide +kernel
theorem dX5_layAll_131 : decode cX5_layAll 131 = .ok (.aload_n 0, 1) := by decide +kernel
theorem dX5_layAll_132 : decode cX5_layAll 132 = .ok (.aload_n 1, 1) := by decide +kernel
theorem dX5_layAll_133 : decode cX5_layAll 133 = .ok (.iload 4, 2) := by decide +kernel
theorem dX5_layAll_135 : decode cX5_layAll 135 = .ok (.iload 5, 2) := by decide +kernel
theorem dX5_layAll_137 : decode cX5_layAll 137 = .ok (.invokevirtual 99, 3) := by decide +kernel
theorem dX5_layAll_140 : decode cX5_layAll 140 = .ok (.invokevirtual 87, 3) := by decide +kernel
theorem dX5_layAll_143 : decode cX5_layAll 143 = .ok (.iinc 5 1, 3) := by decide +kernel
theorem dX5_layAll_146 : decode cX5_layAll 146 = .ok (.goto (-96), 3) := by decide +kernel
theorem dX5_layAll_149 : decode cX5_layAll 149 = .ok (.iinc 3 1, 3) := by decide +kernel
theorem dX5_layAll_152 : decode cX5_layAll 152 = .ok (.goto (-129), 3) := by decide +kernel
theorem dX5_layAll_155 : decode cX5_layAll 155 = .ok (.return_, 1) := by decide +kernel
theorem dX5_layOne_0 : decode cX5_layOne 0 = .ok (.aload_n 0, 1) := by decide +kernel
theorem dX5_layOne_1 : decode cX5_layOne 1 = .ok (.getfield 9, 3) := by decide +kernel
theorem dX5_layOne_4 : decode cX5_layOne 4 = .ok (.iload_n 1, 1) := by decide +kernel
theorem dX5_layOne_5 : decode cX5_layOne 5 = .ok (.iload_n 2, 1) := by decide +kernel
theorem dX5_layOne_6 : decode cX5_layOne 6 = .ok (.iastore, 1) := by decide +kernel
theorem dX5_layOne_7 : decode cX5_layOne 7 = .ok (.aload_n 0, 1) := by decide +kernel
theorem dX5_layOne_8 : decode cX5_layOne 8 = .ok (.getfield 15, 3) := by decide +kernel
theorem dX5_layOne_11 : decode cX5_layOne 11 = .ok (.iload_n 1, 1) := by decide +kernel
theorem dX5_layOne_12 : decode cX5_layOne 12 = .ok (.iload_n 3, 1) := by decide +kernel
theorem dX5_layOne_13 : decode cX5_layOne 13 = .ok (.iastore, 1) := by decide +kernel
theorem dX5_layOne_14 : decode cX5_layOne 14 = .ok (.aload_n 0, 1) := by decide +kernel
theorem dX5_layOne_15 : decode cX5_layOne 15 = .ok (.getfield 18, 3) := by decide +kernel
theorem dX5_layOne_18 : decode cX5_layOne 18 = .ok (.iload_n 1, 1) := by decide +kernel
theorem dX5_layOne_19 : decode cX5_layOne 19 = .ok (.iload 4, 2) := by decide +kernel
theorem dX5_layOne_21 : decode cX5_layOne 21 = .ok (.iastore, 1) := by decide +kernel
theorem dX5_layOne_22 : decode cX5_layOne 22 = .ok (.aload_n 0, 1) := by decide +kernel
theorem dX5_layOne_23 : decode cX5_layOne 23 = .ok (.getfield 21, 3) := by decide +kernel
theorem dX5_layOne_26 : decode cX5_layOne 26 = .ok (.aload_n 0, 1) := by decide +kernel
theorem dX5_layOne_27 : decode cX5_layOne 27 = .ok (.getfield 28, 3) := by decide +kernel
theorem dX5_layOne_30 : decode cX5_layOne 30 = .ok (.iload_n 1, 1) := by decide +kernel
theorem dX5_layOne_31 : decode cX5_layOne 31 = .ok (.iastore, 1) := by decide +kernel
theorem dX5_layOne_32 : decode cX5_layOne 32 = .ok (.aload_n 0, 1) := by decide +kernel
theorem dX5_layOne_33 : decode cX5_layOne 33 = .ok (.dup, 1) := by decide +kernel
theorem dX5_layOne_34 : decode cX5_layOne 34 = .ok (.getfield 28, 3) := by decide +kernel
theorem dX5_layOne_37 : decode cX5_layOne 37 = .ok (.iconst 1, 1) := by decide +kernel
theorem dX5_layOne_38 : decode cX5_layOne 38 = .ok (.iadd, 1) := by decide +kernel
theorem dX5_layOne_39 : decode cX5_layOne 39 = .ok (.putfield 28, 3) := by decide +kernel
theorem dX5_layOne_42 : decode cX5_layOne 42 = .ok (.return_, 1) := by decide +kernel
theorem dX5_turnBeside_0 : decode cX5_turnBeside 0 = .ok (.iload_n 3, 1) := by decide +kernel
theorem dX5_turnBeside_1 : decode cX5_turnBeside 1 = .ok (.aload_n 0, 1) := by decide +kernel
theorem dX5_turnBeside_2 : decode cX5_turnBeside 2 = .ok (.getfield 18, 3) := by decide +kernel
theorem dX5_turnBeside_5 : decode cX5_turnBeside 5 = .ok (.iload_n 2, 1) := by decide +kernel
theorem dX5_turnBeside_6 : decode cX5_turnBeside 6 = .ok (.iaload, 1) := by decide +kernel
theorem dX5_turnBeside_7 : decode cX5_turnBeside 7 = .ok (.iadd, 1) := by decide +kernel
theorem dX5_turnBeside_8 : decode cX5_turnBeside 8 = .ok (.iconst 2, 1) := by decide +kernel
theorem dX5_turnBeside_9 : decode cX5_turnBeside 9 = .ok (.iadd, 1) := by decide +kernel
theorem dX5_turnBeside_10 : decode cX5_turnBeside 10 = .ok (.aload_n 1, 1) := by decide +kernel
theorem dX5_turnBeside_11 : decode cX5_turnBeside 11 = .ok (.iload_n 2, 1) := by decide +kernel
theorem dX5_turnBeside_12 : decode cX5_turnBeside 12 = .ok (.iload_n 3, 1) := by decide +kernel
theorem dX5_turnBeside_13 : decode cX5_turnBeside 13 = .ok (.invokevirtual 103, 3) := by decide +kernel
theorem dX5_turnBeside_16 : decode cX5_turnBeside 16 = .ok (.isub, 1) := by decide +kernel
theorem dX5_turnBeside_17 : decode cX5_turnBeside 17 = .ok (.iconst 3, 1) := by decide +kernel
theorem dX5_turnBeside_18 : decode cX5_turnBeside 18 = .ok (.iand, 1) := by decide +kernel
theorem dX5_turnBeside_19 : decode cX5_turnBeside 19 = .ok (.ireturn, 1) := by decide +kernel
theorem dX5_agrees_0 : decode cX5_agrees 0 = .ok (.iconst 0, 1) := by decide +kernel
theorem dX5_agrees_1 : decode cX5_agrees 1 = .ok (.istore_n 3, 1) := by decide +kernel
theorem dX5_agrees_2 : decode cX5_agrees 2 = .ok (.iload_n 3, 1) := by decide +kernel
theorem dX5_agrees_3 : decode cX5_agrees 3 = .ok (.aload_n 0, 1) := by decide +kernel
theorem dX5_agrees_4 : decode cX5_agrees 4 = .ok (.getfield 24, 3) := by decide +kernel
theorem dX5_agrees_7 : decode cX5_agrees 7 = .ok (.if_icmp .ge 47, 3) := by decide +kernel
theorem dX5_agrees_10 : decode cX5_agrees 10 = .ok (.iconst 0, 1) := by decide +kernel
theorem dX5_agrees_11 : decode cX5_agrees 11 = .ok (.istore 4, 2) := by decide +kernel
theorem dX5_agrees_13 : decode cX5_agrees 13 = .ok (.iload 4, 2) := by decide +kernel
theorem dX5_agrees_15 : decode cX5_agrees 15 = .ok (.iconst 4, 1) := by decide +kernel
theorem dX5_agrees_16 : decode cX5_agrees 16 = .ok (.if_icmp .ge 32, 3) := by decide +kernel
theorem dX5_agrees_19 : decode cX5_agrees 19 = .ok (.aload_n 2, 1) := by decide +kernel
theorem dX5_agrees_20 : decode cX5_agrees 20 = .ok (.iload_n 3, 1) := by decide +kernel
theorem dX5_agrees_21 : decode cX5_agrees 21 = .ok (.iload 4, 2) := by decide +kernel
theorem dX5_agrees_23 : decode cX5_agrees 23 = .ok (.invokevirtual 68, 3) := by decide +kernel
theorem dX5_agrees_26 : decode cX5_agrees 26 = .ok (.ifCond .ne 16, 3) := by decide +kernel
theorem dX5_agrees_29 : decode cX5_agrees 29 = .ok (.aload_n 0, 1) := by decide +kernel
theorem dX5_agrees_30 : decode cX5_agrees 30 = .ok (.aload_n 1, 1) := by decide +kernel
theorem dX5_agrees_31 : decode cX5_agrees 31 = .ok (.iload_n 3, 1) := by decide +kernel
theorem dX5_agrees_32 : decode cX5_agrees 32 = .ok (.iload 4, 2) := by decide +kernel
theorem dX5_agrees_34 : decode cX5_agrees 34 = .ok (.invokevirtual 106, 3) := by decide +kernel
theorem dX5_agrees_37 : decode cX5_agrees 37 = .ok (.ifCond .ne 5, 3) := by decide +kernel
theorem dX5_agrees_40 : decode cX5_agrees 40 = .ok (.iconst 0, 1) := by decide +kernel
theorem dX5_agrees_41 : decode cX5_agrees 41 = .ok (.ireturn, 1) := by decide +kernel
theorem dX5_agrees_42 : decode cX5_agrees 42 = .ok (.iinc 4 1, 3) := by decide +kernel
theorem dX5_agrees_45 : decode cX5_agrees 45 = .ok (.goto (-32), 3) := by decide +kernel
theorem dX5_agrees_48 : decode cX5_agrees 48 = .ok (.iinc 3 1, 3) := by decide +kernel
theorem dX5_agrees_51 : decode cX5_agrees 51 = .ok (.goto (-49), 3) := by decide +kernel
theorem dX5_agrees_54 : decode cX5_agrees 54 = .ok (.iconst 1, 1) := by decide +kernel
theorem dX5_agrees_55 : decode cX5_agrees 55 = .ok (.ireturn, 1) := by decide +kernel
theorem dX5_liesBeside_0 : decode cX5_liesBeside 0 = .ok (.aload_n 1, 1) := by decide +kernel
theorem dX5_liesBeside_1 : decode cX5_liesBeside 1 = .ok (.iload_n 2, 1) := by decide +kernel
theorem dX5_liesBeside_2 : decode cX5_liesBeside 2 = .ok (.iload_n 3, 1) := by decide +kernel
theorem dX5_liesBeside_3 : decode cX5_liesBeside 3 = .ok (.invokevirtual 90, 3) := by decide +kernel
theorem dX5_liesBeside_6 : decode cX5_liesBeside 6 = .ok (.istore 4, 2) := by decide +kernel
theorem dX5_liesBeside_8 : decode cX5_liesBeside 8 = .ok (.iload_n 3, 1) := by decide +kernel
theorem dX5_liesBeside_9 : decode cX5_liesBeside 9 = .ok (.aload_n 0, 1) := by decide +kernel
theorem dX5_liesBeside_10 : decode cX5_liesBeside 10 = .ok (.getfield 18, 3) := by decide +kernel
theorem dX5_liesBeside_13 : decode cX5_liesBeside 13 = .ok (.iload_n 2, 1) := by decide +kernel
theorem dX5_liesBeside_14 : decode cX5_liesBeside 14 = .ok (.iaload, 1) := by decide +kernel
theorem dX5_liesBeside_15 : decode cX5_liesBeside 15 = .ok (.iadd, 1) := by decide +kernel
theorem dX5_liesBeside_16 : decode cX5_liesBeside 16 = .ok (.iconst 3, 1) := by decide +kernel
theorem dX5_liesBeside_17 : decode cX5_liesBeside 17 = .ok (.iand, 1) := by decide +kernel
theorem dX5_liesBeside_18 : decode cX5_liesBeside 18 = .ok (.istore 5, 2) := by decide +kernel
theorem dX5_liesBeside_20 : decode cX5_liesBeside 20 = .ok (.aload_n 0, 1) := by decide +kernel
theorem dX5_liesBeside_21 : decode cX5_liesBeside 21 = .ok (.getfield 9, 3) := by decide +kernel
theorem dX5_liesBeside_24 : decode cX5_liesBeside 24 = .ok (.iload 4, 2) := by decide +kernel
theorem dX5_liesBeside_26 : decode cX5_liesBeside 26 = .ok (.iaload, 1) := by decide +kernel
theorem dX5_liesBeside_27 : decode cX5_liesBeside 27 = .ok (.aload_n 0, 1) := by decide +kernel
theorem dX5_liesBeside_28 : decode cX5_liesBeside 28 = .ok (.getfield 9, 3) := by decide +kernel
theorem dX5_liesBeside_31 : decode cX5_liesBeside 31 = .ok (.iload_n 2, 1) := by decide +kernel
theorem dX5_liesBeside_32 : decode cX5_liesBeside 32 = .ok (.iaload, 1) := by decide +kernel
theorem dX5_liesBeside_33 : decode cX5_liesBeside 33 = .ok (.iload 5, 2) := by decide +kernel
theorem dX5_liesBeside_35 : decode cX5_liesBeside 35 = .ok (.invokestatic 93, 3) := by decide +kernel
theorem dX5_liesBeside_38 : decode cX5_liesBeside 38 = .ok (.iadd, 1) := by decide +kernel
theorem dX5_liesBeside_39 : decode cX5_liesBeside 39 = .ok (.if_icmp .ne 46, 3) := by decide +kernel
theorem dX5_liesBeside_42 : decode cX5_liesBeside 42 = .ok (.aload_n 0, 1) := by decide +kernel
theorem dX5_liesBeside_43 : decode cX5_liesBeside 43 = .ok (.getfield 15, 3) := by decide +kernel
theorem dX5_liesBeside_46 : decode cX5_liesBeside 46 = .ok (.iload 4, 2) := by decide +kernel
theorem dX5_liesBeside_48 : decode cX5_liesBeside 48 = .ok (.iaload, 1) := by decide +kernel
theorem dX5_liesBeside_49 : decode cX5_liesBeside 49 = .ok (.aload_n 0, 1) := by decide +kernel
theorem dX5_liesBeside_50 : decode cX5_liesBeside 50 = .ok (.getfield 15, 3) := by decide +kernel
theorem dX5_liesBeside_53 : decode cX5_liesBeside 53 = .ok (.iload_n 2, 1) := by decide +kernel
theorem dX5_liesBeside_54 : decode cX5_liesBeside 54 = .ok (.iaload, 1) := by decide +kernel
theorem dX5_liesBeside_55 : decode cX5_liesBeside 55 = .ok (.iload 5, 2) := by decide +kernel
theorem dX5_liesBeside_57 : decode cX5_liesBeside 57 = .ok (.invokestatic 96, 3) := by decide +kernel
theorem dX5_liesBeside_60 : decode cX5_liesBeside 60 = .ok (.iadd, 1) := by decide +kernel
theorem dX5_liesBeside_61 : decode cX5_liesBeside 61 = .ok (.if_icmp .ne 24, 3) := by decide +kernel
theorem dX5_liesBeside_64 : decode cX5_liesBeside 64 = .ok (.aload_n 0, 1) := by decide +kernel
theorem dX5_liesBeside_65 : decode cX5_liesBeside 65 = .ok (.getfield 18, 3) := by decide +kernel
theorem dX5_liesBeside_68 : decode cX5_liesBeside 68 = .ok (.iload 4, 2) := by decide +kernel
theorem dX5_liesBeside_70 : decode cX5_liesBeside 70 = .ok (.iaload, 1) := by decide +kernel
theorem dX5_liesBeside_71 : decode cX5_liesBeside 71 = .ok (.aload_n 0, 1) := by decide +kernel
theorem dX5_liesBeside_72 : decode cX5_liesBeside 72 = .ok (.aload_n 1, 1) := by decide +kernel
theorem dX5_liesBeside_73 : decode cX5_liesBeside 73 = .ok (.iload_n 2, 1) := by decide +kernel
theorem dX5_liesBeside_74 : decode cX5_liesBeside 74 = .ok (.iload_n 3, 1) := by decide +kernel
theorem dX5_liesBeside_75 : decode cX5_liesBeside 75 = .ok (.invokevirtual 99, 3) := by decide +kernel
theorem dX5_liesBeside_78 : decode cX5_liesBeside 78 = .ok (.if_icmp .ne 7, 3) := by decide +kernel
theorem dX5_liesBeside_81 : decode cX5_liesBeside 81 = .ok (.iconst 1, 1) := by decide +kernel
theorem dX5_liesBeside_82 : decode cX5_liesBeside 82 = .ok (.goto 4, 3) := by decide +kernel
theorem dX5_liesBeside_85 : decode cX5_liesBeside 85 = .ok (.iconst 0, 1) := by decide +kernel
theorem dX5_liesBeside_86 : decode cX5_liesBeside 86 = .ok (.ireturn, 1) := by decide +kernel
theorem dX5_overlaps_0 : decode cX5_overlaps 0 = .ok (.iconst 0, 1) := by decide +kernel
theorem dX5_overlaps_1 : decode cX5_overlaps 1 = .ok (.istore_n 1, 1) := by decide +kernel
theorem dX5_overlaps_2 : decode cX5_overlaps 2 = .ok (.iload_n 1, 1) := by decide +kernel
theorem dX5_overlaps_3 : decode cX5_overlaps 3 = .ok (.aload_n 0, 1) := by decide +kernel
theorem dX5_overlaps_4 : decode cX5_overlaps 4 = .ok (.getfield 24, 3) := by decide +kernel
theorem dX5_overlaps_7 : decode cX5_overlaps 7 = .ok (.if_icmp .ge 54, 3) := by decide +kernel
theorem dX5_overlaps_10 : decode cX5_overlaps 10 = .ok (.iconst 0, 1) := by decide +kernel
theorem dX5_overlaps_11 : decode cX5_overlaps 11 = .ok (.istore_n 2, 1) := by decide +kernel
theorem dX5_overlaps_12 : decode cX5_overlaps 12 = .ok (.iload_n 2, 1) := by decide +kernel
theorem dX5_overlaps_13 : decode cX5_overlaps 13 = .ok (.iload_n 1, 1) := by decide +kernel
theorem dX5_overlaps_14 : decode cX5_overlaps 14 = .ok (.if_icmp .ge 41, 3) := by decide +kernel
theorem dX5_overlaps_17 : decode cX5_overlaps 17 = .ok (.aload_n 0, 1) := by decide +kernel
theorem dX5_overlaps_18 : decode cX5_overlaps 18 = .ok (.getfield 9, 3) := by decide +kernel
theorem dX5_overlaps_21 : decode cX5_overlaps 21 = .ok (.iload_n 1, 1) := by decide +kernel
theorem dX5_overlaps_22 : decode cX5_overlaps 22 = .ok (.iaload, 1) := by decide +kernel
theorem dX5_overlaps_23 : decode cX5_overlaps 23 = .ok (.aload_n 0, 1) := by decide +kernel
theorem dX5_overlaps_24 : decode cX5_overlaps 24 = .ok (.getfield 9, 3) := by decide +kernel
theorem dX5_overlaps_27 : decode cX5_overlaps 27 = .ok (.iload_n 2, 1) := by decide +kernel
theorem dX5_overlaps_28 : decode cX5_overlaps 28 = .ok (.iaload, 1) := by decide +kernel
theorem dX5_overlaps_29 : decode cX5_overlaps 29 = .ok (.if_icmp .ne 20, 3) := by decide +kernel
theorem dX5_overlaps_32 : decode cX5_overlaps 32 = .ok (.aload_n 0, 1) := by decide +kernel
theorem dX5_overlaps_33 : decode cX5_overlaps 33 = .ok (.getfield 15, 3) := by decide +kernel
theorem dX5_overlaps_36 : decode cX5_overlaps 36 = .ok (.iload_n 1, 1) := by decide +kernel
theorem dX5_overlaps_37 : decode cX5_overlaps 37 = .ok (.iaload, 1) := by decide +kernel
theorem dX5_overlaps_38 : decode cX5_overlaps 38 = .ok (.aload_n 0, 1) := by decide +kernel
theorem dX5_overlaps_39 : decode cX5_overlaps 39 = .ok (.getfield 15, 3) := by decide +kernel
theorem dX5_overlaps_42 : decode cX5_overlaps 42 = .ok (.iload_n 2, 1) := by decide +kernel
theorem dX5_overlaps_43 : decode cX5_overlaps 43 = .ok (.iaload, 1) := by decide +kernel
theorem dX5_overlaps_44 : decode cX5_overlaps 44 = .ok (.if_icmp .ne 5, 3) := by decide +kernel
theorem dX5_overlaps_47 : decode cX5_overlaps 47 = .ok (.iconst 1, 1) := by decide +kernel
theorem dX5_overlaps_48 : decode cX5_overlaps 48 = .ok (.ireturn, 1) := by decide +kernel
theorem dX5_overlaps_49 : decode cX5_overlaps 49 = .ok (.iinc 2 1, 3) := by decide +kernel
theorem dX5_overlaps_52 : decode cX5_overlaps 52 = .ok (.goto (-40), 3) := by decide +kernel
theorem dX5_overlaps_55 : decode cX5_overlaps 55 = .ok (.iinc 1 1, 3) := by decide +kernel
theorem dX5_overlaps_58 : decode cX5_overlaps 58 = .ok (.goto (-56), 3) := by decide +kernel
theorem dX5_overlaps_61 : decode cX5_overlaps 61 = .ok (.iconst 0, 1) := by decide +kernel
theorem dX5_overlaps_62 : decode cX5_overlaps 62 = .ok (.ireturn, 1) := by decide +kernel
theorem dX6_init_0 : decode cX6_init 0 = .ok (.aload_n 0, 1) := by decide +kernel
theorem dX6_init_1 : decode cX6_init 1 = .ok (.invokespecial 1, 3) := by decide +kernel
theorem dX6_init_4 : decode cX6_init 4 = .ok (.aload_n 0, 1) := by decide +kernel
theorem dX6_init_5 : decode cX6_init 5 = .ok (.sipush 240, 3) := by decide +kernel
theorem dX6_init_8 : decode cX6_init 8 = .ok (.newarray .int, 2) := by decide +kernel
theorem dX6_init_10 : decode cX6_init 10 = .ok (.putfield 9, 3) := by decide +kernel
theorem dX6_init_13 : decode cX6_init 13 = .ok (.aload_n 0, 1) := by decide +kernel
theorem dX6_init_14 : decode cX6_init 14 = .ok (.bipush 60, 2) := by decide +kernel
theorem dX6_init_16 : decode cX6_init 16 = .ok (.newarray .int, 2) := by decide +kernel
theorem dX6_init_18 : decode cX6_init 18 = .ok (.putfield 15, 3) := by decide +kernel
theorem dX6_init_21 : decode cX6_init 21 = .ok (.aload_n 0, 1) := by decide +kernel
theorem dX6_init_22 : decode cX6_init 22 = .ok (.bipush 60, 2) := by decide +kernel
theorem dX6_init_24 : decode cX6_init 24 = .ok (.newarray .int, 2) := by decide +kernel
theorem dX6_init_26 : decode cX6_init 26 = .ok (.putfield 18, 3) := by decide +kernel
theorem dX6_init_29 : decode cX6_init 29 = .ok (.aload_n 0, 1) := by decide +kernel
theorem dX6_init_30 : decode cX6_init 30 = .ok (.iconst 0, 1) := by decide +kernel
theorem dX6_init_31 : decode cX6_init 31 = .ok (.putfield 21, 3) := by decide +kernel
theorem dX6_init_34 : decode cX6_init 34 = .ok (.aload_n 0, 1) := by decide +kernel
theorem dX6_init_35 : decode cX6_init 35 = .ok (.iconst 0, 1) := by decide +kernel
theorem dX6_init_36 : decode cX6_init 36 = .ok (.putfield 25, 3) := by decide +kernel
theorem dX6_init_39 : decode cX6_init 39 = .ok (.return_, 1) := by decide +kernel
theorem dX6_trace_0 : decode cX6_trace 0 = .ok (.aload_n 0, 1) := by decide +kernel
theorem dX6_trace_1 : decode cX6_trace 1 = .ok (.aload_n 1, 1) := by decide +kernel
theorem dX6_trace_2 : decode cX6_trace 2 = .ok (.invokevirtual 28, 3) := by decide +kernel
theorem dX6_trace_5 : decode cX6_trace 5 = .ok (.putfield 21, 3) := by decide +kernel
theorem dX6_trace_8 : decode cX6_trace 8 = .ok (.iconst 0, 1) := by decide +kernel
theorem dX6_trace_9 : decode cX6_trace 9 = .ok (.istore_n 2, 1) := by decide +kernel
theorem dX6_trace_10 : decode cX6_trace 10 = .ok (.iload_n 2, 1) := by decide +kernel
theorem dX6_trace_11 : decode cX6_trace 11 = .ok (.aload_n 0, 1) := by decide +kernel
theorem dX6_trace_12 : decode cX6_trace 12 = .ok (.getfield 21, 3) := by decide +kernel
theorem dX6_trace_15 : decode cX6_trace 15 = .ok (.if_icmp .ge 63, 3) := by decide +kernel
theorem dX6_trace_18 : decode cX6_trace 18 = .ok (.iconst 0, 1) := by decide +kernel
theorem dX6_trace_19 : decode cX6_trace 19 = .ok (.istore_n 3, 1) := by decide +kernel
theorem dX6_trace_20 : decode cX6_trace 20 = .ok (.iload_n 3, 1) := by decide +kernel
theorem dX6_trace_21 : decode cX6_trace 21 = .ok (.iconst 4, 1) := by decide +kernel
theorem dX6_trace_22 : decode cX6_trace 22 = .ok (.if_icmp .ge 50, 3) := by decide +kernel
theorem dX6_trace_25 : decode cX6_trace 25 = .ok (.aload_n 1, 1) := by decide +kernel
theorem dX6_trace_26 : decode cX6_trace 26 = .ok (.iload_n 2, 1) := by decide +kernel
theorem dX6_trace_27 : decode cX6_trace 27 = .ok (.iload_n 3, 1) := by decide +kernel
theorem dX6_trace_28 : decode cX6_trace 28 = .ok (.invokevirtual 32, 3) := by decide +kernel
theorem dX6_trace_31 : decode cX6_trace 31 = .ok (.ifCond .eq 7, 3) := by decide +kernel
theorem dX6_trace_34 : decode cX6_trace 34 = .ok (.iconst 1, 1) := by decide +kernel
theorem dX6_trace_35 : decode cX6_trace 35 = .ok (.goto 4, 3) := by decide +kernel
theorem dX6_trace_38 : decode cX6_trace 38 = .ok (.iconst 0, 1) := by decide +kernel
theorem dX6_trace_39 : decode cX6_trace 39 = .ok (.istore 4, 2) := by decide +kernel
theorem dX6_trace_41 : decode cX6_trace 41 = .ok (.aload_n 0, 1) := by decide +kernel
theorem dX6_trace_42 : decode cX6_trace 42 = .ok (.getfield 9, 3) := by decide +kernel
theorem dX6_trace_45 : decode cX6_trace 45 = .ok (.iconst 4, 1) := by decide +kernel
theorem dX6_trace_46 : decode cX6_trace 46 = .ok (.iload_n 2, 1) := by decide +kernel
theorem dX6_trace_47 : decode cX6_trace 47 = .ok (.imul, 1) := by decide +kernel
theorem dX6_trace_48 : decode cX6_trace 48 = .ok (.iload_n 3, 1) := by decide +kernel
theorem dX6_trace_49 : decode cX6_trace 49 = .ok (.iadd, 1) := by decide +kernel
theorem dX6_trace_50 : decode cX6_trace 50 = .ok (.iload 4, 2) := by decide +kernel
theorem dX6_trace_52 : decode cX6_trace 52 = .ok (.ifCond .eq 12, 3) := by decide +kernel
theorem dX6_trace_55 : decode cX6_trace 55 = .ok (.aload_n 1, 1) := by decide +kernel
theorem dX6_trace_56 : decode cX6_trace 56 = .ok (.iload_n 2, 1) := by decide +kernel
theorem dX6_trace_57 : decode cX6_trace 57 = .ok (.iload_n 3, 1) := by decide +kernel
theorem dX6_trace_58 : decode cX6_trace 58 = .ok (.invokevirtual 36, 3) := by decide +kernel
theorem dX6_trace_61 : decode cX6_trace 61 = .ok (.goto 4, 3) := by decide +kernel
theorem dX6_trace_64 : decode cX6_trace 64 = .ok (.iconst (-1), 1) := by decide +kernel
theorem dX6_trace_65 : decode cX6_trace 65 = .ok (.iastore, 1) := by decide +kernel
theorem dX6_trace_66 : decode cX6_trace 66 = .ok (.iinc 3 1, 3) := by decide +kernel
theorem dX6_trace_69 : decode cX6_trace 69 = .ok (.goto (-49), 3) := by decide +kernel
theorem dX6_trace_72 : decode cX6_trace 72 = .ok (.iinc 2 1, 3) := by decide +kernel
theorem dX6_trace_75 : decode cX6_trace 75 = .ok (.goto (-65), 3) := by decide +kernel
theorem dX6_trace_78 : decode cX6_trace 78 = .ok (.aload_n 0, 1) := by decide +kernel
theorem dX6_trace_79 : decode cX6_trace 79 = .ok (.invokevirtual 39, 3) := by decide +kernel
theorem dX6_trace_82 : decode cX6_trace 82 = .ok (.return_, 1) := by decide +kernel
theorem dX6_reachAll_0 : decode cX6_reachAll 0 = .ok (.aload_n 0, 1) := by decide +kernel
theorem dX6_reachAll_1 : decode cX6_reachAll 1 = .ok (.getfield 18, 3) := by decide +kernel
theorem dX6_reachAll_4 : decode cX6_reachAll 4 = .ok (.iconst (-1), 1) := by decide +kernel
theorem dX6_reachAll_5 : decode cX6_reachAll 5 = .ok (.invokestatic 42, 3) := by decide +kernel
theorem dX6_reachAll_8 : decode cX6_reachAll 8 = .ok (.aload_n 0, 1) := by decide +kernel
theorem dX6_reachAll_9 : decode cX6_reachAll 9 = .ok (.aload_n 0, 1) := by decide +kernel
theorem dX6_reachAll_10 : decode cX6_reachAll 10 = .ok (.getfield 21, 3) := by decide +kernel
theorem dX6_reachAll_13 : decode cX6_reachAll 13 = .ok (.iconst 1, 1) := by decide +kernel
theorem dX6_reachAll_14 : decode cX6_reachAll 14 = .ok (.invokestatic 48, 3) := by decide +kernel
theorem dX6_reachAll_17 : decode cX6_reachAll 17 = .ok (.putfield 25, 3) := by decide +kernel
theorem dX6_reachAll_20 : decode cX6_reachAll 20 = .ok (.aload_n 0, 1) := by decide +kernel
theorem dX6_reachAll_21 : decode cX6_reachAll 21 = .ok (.getfield 15, 3) := by decide +kernel
theorem dX6_reachAll_24 : decode cX6_reachAll 24 = .ok (.iconst 0, 1) := by decide +kernel
theorem dX6_reachAll_25 : decode cX6_reachAll 25 = .ok (.iconst 0, 1) := by decide +kernel
theorem dX6_reachAll_26 : decode cX6_reachAll 26 = .ok (.iastore, 1) := by decide +kernel
theorem dX6_reachAll_27 : decode cX6_reachAll 27 = .ok (.iconst 0, 1) := by decide +kernel
theorem dX6_reachAll_28 : decode cX6_reachAll 28 = .ok (.istore_n 1, 1) := by decide +kernel
theorem dX6_reachAll_29 : decode cX6_reachAll 29 = .ok (.iload_n 1, 1) := by decide +kernel
theorem dX6_reachAll_30 : decode cX6_reachAll 30 = .ok (.aload_n 0, 1) := by decide +kernel
theorem dX6_reachAll_31 : decode cX6_reachAll 31 = .ok (.getfield 21, 3) := by decide +kernel
theorem dX6_reachAll_34 : decode cX6_reachAll 34 = .ok (.if_icmp .ge 94, 3) := by decide +kernel
theorem dX6_reachAll_37 : decode cX6_reachAll 37 = .ok (.iload_n 1, 1) := by decide +kernel
theorem dX6_reachAll_38 : decode cX6_reachAll 38 = .ok (.aload_n 0, 1) := by decide +kernel
theorem dX6_reachAll_39 : decode cX6_reachAll 39 = .ok (.getfield 25, 3) := by decide +kernel
theorem dX6_reachAll_42 : decode cX6_reachAll 42 = .ok (.if_icmp .ge 86, 3) := by decide +kernel
theorem dX6_reachAll_45 : decode cX6_reachAll 45 = .ok (.iconst 0, 1) := by decide +kernel
theorem dX6_reachAll_46 : decode cX6_reachAll 46 = .ok (.istore_n 2, 1) := by decide +kernel
theorem dX6_reachAll_47 : decode cX6_reachAll 47 = .ok (.iload_n 2, 1) := by decide +kernel
theorem dX6_reachAll_48 : decode cX6_reachAll 48 = .ok (.iconst 4, 1) := by decide +kernel
theorem dX6_reachAll_49 : decode cX6_reachAll 49 = .ok (.if_icmp .ge 73, 3) := by decide +kernel
theorem dX6_reachAll_52 : decode cX6_reachAll 52 = .ok (.iconst 4, 1) := by decide +kernel
theorem dX6_reachAll_53 : decode cX6_reachAll 53 = .ok (.aload_n 0, 1) := by decide +kernel
theorem dX6_reachAll_54 : decode cX6_reachAll 54 = .ok (.getfield 15, 3) := by decide +kernel
theorem dX6_reachAll_57 : decode cX6_reachAll 57 = .ok (.iload_n 1, 1) := by decide +kernel
theorem dX6_reachAll_58 : decode cX6_reachAll 58 = .ok (.iaload, 1) := by decide +kernel
theorem dX6_reachAll_59 : decode cX6_reachAll 59 = .ok (.imul, 1) := by decide +kernel
theorem dX6_reachAll_60 : decode cX6_reachAll 60 = .ok (.iload_n 2, 1) := by decide +kernel
theorem dX6_reachAll_61 : decode cX6_reachAll 61 = .ok (.iadd, 1) := by decide +kernel
theorem dX6_reachAll_62 : decode cX6_reachAll 62 = .ok (.istore_n 3, 1) := by decide +kernel
theorem dX6_reachAll_63 : decode cX6_reachAll 63 = .ok (.aload_n 0, 1) := by decide +kernel
theorem dX6_reachAll_64 : decode cX6_reachAll 64 = .ok (.getfield 9, 3) := by decide +kernel
theorem dX6_reachAll_67 : decode cX6_reachAll 67 = .ok (.iload_n 3, 1) := by decide +kernel
theorem dX6_reachAll_68 : decode cX6_reachAll 68 = .ok (.iaload, 1) := by decide +kernel
theorem dX6_reachAll_69 : decode cX6_reachAll 69 = .ok (.istore 4, 2) := by decide +kernel
theorem dX6_reachAll_71 : decode cX6_reachAll 71 = .ok (.iload 4, 2) := by decide +kernel
theorem dX6_reachAll_73 : decode cX6_reachAll 73 = .ok (.ifCond .le 43, 3) := by decide +kernel
theorem dX6_reachAll_76 : decode cX6_reachAll 76 = .ok (.aload_n 0, 1) := by decide +kernel
theorem dX6_reachAll_77 : decode cX6_reachAll 77 = .ok (.getfield 18, 3) := by decide +kernel
theorem dX6_reachAll_80 : decode cX6_reachAll 80 = .ok (.iload 4, 2) := by decide +kernel
theorem dX6_reachAll_82 : decode cX6_reachAll 82 = .ok (.iaload, 1) := by decide +kernel
theorem dX6_reachAll_83 : decode cX6_reachAll 83 = .ok (.iconst (-1), 1) := by decide +kernel
theorem dX6_reachAll_84 : decode cX6_reachAll 84 = .ok (.if_icmp .ne 32, 3) := by decide +kernel
theorem dX6_reachAll_87 : decode cX6_reachAll 87 = .ok (.aload_n 0, 1) := by decide +kernel
theorem dX6_reachAll_88 : decode cX6_reachAll 88 = .ok (.getfield 18, 3) := by decide +kernel
theorem dX6_reachAll_91 : decode cX6_reachAll 91 = .ok (.iload 4, 2) := by decide +kernel
theorem dX6_reachAll_93 : decode cX6_reachAll 93 = .ok (.iload_n 3, 1) := by decide +kernel
theorem dX6_reachAll_94 : decode cX6_reachAll 94 = .ok (.iastore, 1) := by decide +kernel
theorem dX6_reachAll_95 : decode cX6_reachAll 95 = .ok (.aload_n 0, 1) := by decide +kernel
theorem dX6_reachAll_96 : decode cX6_reachAll 96 = .ok (.getfield 15, 3) := by decide +kernel
theorem dX6_reachAll_99 : decode cX6_reachAll 99 = .ok (.aload_n 0, 1) := by decide +kernel
theorem dX6_reachAll_100 : decode cX6_reachAll 100 = .ok (.getfield 25, 3) := by decide +kernel
theorem dX6_reachAll_103 : decode cX6_reachAll 103 = .ok (.iload 4, 2) := by decide +kernel
theorem dX6_reachAll_105 : decode cX6_reachAll 105 = .ok (.iastore, 1) := by decide +kernel
theorem dX6_reachAll_106 : decode cX6_reachAll 106 = .ok (.aload_n 0, 1) := by decide +kernel
theorem dX6_reachAll_107 : decode cX6_reachAll 107 = .ok (.dup, 1) := by decide +kernel
theorem dX6_reachAll_108 : decode cX6_reachAll 108 = .ok (.getfield 25, 3) := by decide +kernel
theorem dX6_reachAll_111 : decode cX6_reachAll 111 = .ok (.iconst 1, 1) := by decide +kernel
theorem dX6_reachAll_112 : decode cX6_reachAll 112 = .ok (.iadd, 1) := by decide +kernel
theorem dX6_reachAll_113 : decode cX6_reachAll 113 = .ok (.putfield 25, 3) := by decide +kernel
theorem dX6_reachAll_116 : decode cX6_reachAll 116 = .ok (.iinc 2 1, 3) := by decide +kernel
theorem dX6_reachAll_119 : decode cX6_reachAll 119 = .ok (.goto (-72), 3) := by decide +kernel
theorem dX6_reachAll_122 : decode cX6_reachAll 122 = .ok (.iinc 1 1, 3) := by decide +kernel
theorem dX6_reachAll_125 : decode cX6_reachAll 125 = .ok (.goto (-96), 3) := by decide +kernel
theorem dX6_reachAll_128 : decode cX6_reachAll 128 = .ok (.return_, 1) := by decide +kernel
theorem dX6_hangTogether_0 : decode cX6_hangTogether 0 = .ok (.aload_n 0, 1) := by decide +kernel
theorem dX6_hangTogether_1 : decode cX6_hangTogether 1 = .ok (.getfield 21, 3) := by decide +kernel
theorem dX6_hangTogether_4 : decode cX6_hangTogether 4 = .ok (.ifCond .le 18, 3) := by decide +kernel
theorem dX6_hangTogether_7 : decode cX6_hangTogether 7 = .ok (.aload_n 0, 1) := by decide +kernel
theorem dX6_hangTogether_8 : decode cX6_hangTogether 8 = .ok (.getfield 25, 3) := by decide +kernel
theorem dX6_hangTogether_11 : decode cX6_hangTogether 11 = .ok (.aload_n 0, 1) := by decide +kernel
theorem dX6_hangTogether_12 : decode cX6_hangTogether 12 = .ok (.getfield 21, 3) := by decide +kernel
theorem dX6_hangTogether_15 : decode cX6_hangTogether 15 = .ok (.if_icmp .ne 7, 3) := by decide +kernel
theorem dX6_hangTogether_18 : decode cX6_hangTogether 18 = .ok (.iconst 1, 1) := by decide +kernel
theorem dX6_hangTogether_19 : decode cX6_hangTogether 19 = .ok (.goto 4, 3) := by decide +kernel
theorem dX6_hangTogether_22 : decode cX6_hangTogether 22 = .ok (.iconst 0, 1) := by decide +kernel
theorem dX6_hangTogether_23 : decode cX6_hangTogether 23 = .ok (.ireturn, 1) := by decide +kernel
theorem dX6_next_0 : decode cX6_next 0 = .ok (.aload_n 0, 1) := by decide +kernel
theorem dX6_next_1 : decode cX6_next 1 = .ok (.getfield 9, 3) := by decide +kernel
theorem dX6_next_4 : decode cX6_next 4 = .ok (.iconst 4, 1) := by decide +kernel
theorem dX6_next_5 : decode cX6_next 5 = .ok (.iload_n 1, 1) := by decide +kernel
theorem dX6_next_6 : decode cX6_next 6 = .ok (.imul, 1) := by decide +kernel
theorem dX6_next_7 : decode cX6_next 7 = .ok (.iload_n 2, 1) := by decide +kernel
theorem dX6_next_8 : decode cX6_next 8 = .ok (.iadd, 1) := by decide +kernel
theorem dX6_next_9 : decode cX6_next 9 = .ok (.iaload, 1) := by decide +kernel
theorem dX6_next_10 : decode cX6_next 10 = .ok (.ireturn, 1) := by decide +kernel
theorem dX6_inOrder_0 : decode cX6_inOrder 0 = .ok (.aload_n 0, 1) := by decide +kernel
theorem dX6_inOrder_1 : decode cX6_inOrder 1 = .ok (.getfield 15, 3) := by decide +kernel
theorem dX6_inOrder_4 : decode cX6_inOrder 4 = .ok (.iload_n 1, 1) := by decide +kernel
theorem dX6_inOrder_5 : decode cX6_inOrder 5 = .ok (.iaload, 1) := by decide +kernel
theorem dX6_inOrder_6 : decode cX6_inOrder 6 = .ok (.ireturn, 1) := by decide +kernel
theorem dX6_reachedFrom_0 : decode cX6_reachedFrom 0 = .ok (.aload_n 0, 1) := by decide +kernel
theorem dX6_reachedFrom_1 : decode cX6_reachedFrom 1 = .ok (.getfield 18, 3) := by decide +kernel
theorem dX6_reachedFrom_4 : decode cX6_reachedFrom 4 = .ok (.iload_n 1, 1) := by decide +kernel
theorem dX6_reachedFrom_5 : decode cX6_reachedFrom 5 = .ok (.iaload, 1) := by decide +kernel
theorem dX6_reachedFrom_6 : decode cX6_reachedFrom 6 = .ok (.iconst 2, 1) := by decide +kernel
theorem dX6_reachedFrom_7 : decode cX6_reachedFrom 7 = .ok (.ishr, 1) := by decide +kernel
theorem dX6_reachedFrom_8 : decode cX6_reachedFrom 8 = .ok (.ireturn, 1) := by decide +kernel
theorem dX6_reachedBy_0 : decode cX6_reachedBy 0 = .ok (.aload_n 0, 1) := by decide +kernel
theorem dX6_reachedBy_1 : decode cX6_reachedBy 1 = .ok (.getfield 18, 3) := by decide +kernel
theorem dX6_reachedBy_4 : decode cX6_reachedBy 4 = .ok (.iload_n 1, 1) := by decide +kernel
theorem dX6_reachedBy_5 : decode cX6_reachedBy 5 = .ok (.iaload, 1) := by decide +kernel
theorem dX6_reachedBy_6 : decode cX6_reachedBy 6 = .ok (.iconst 3, 1) := by decide +kernel
theorem dX6_reachedBy_7 : decode cX6_reachedBy 7 = .ok (.iand, 1) := by decide +kernel
theorem dX6_reachedBy_8 : decode cX6_reachedBy 8 = .ok (.ireturn, 1) := by decide +kernel
theorem dX7_init_0 : decode cX7_init 0 = .ok (.aload_n 0, 1) := by decide +kernel
theorem dX7_init_1 : decode cX7_init 1 = .ok (.invokespecial 1, 3) := by decide +kernel
theorem dX7_init_4 : decode cX7_init 4 = .ok (.aload_n 0, 1) := by decide +kernel
theorem dX7_init_5 : decode cX7_init 5 = .ok (.bipush 8, 2) := by decide +kernel
theorem dX7_init_7 : decode cX7_init 7 = .ok (.anewarray 9, 3) := by decide +kernel
theorem dX7_init_10 : decode cX7_init 10 = .ok (.putfield 11, 3) := by decide +kernel
theorem dX7_init_13 : decode cX7_init 13 = .ok (.iconst 0, 1) := by decide +kernel
theorem dX7_init_14 : decode cX7_init 14 = .ok (.istore_n 1, 1) := by decide +kernel
theorem dX7_init_15 : decode cX7_init 15 = .ok (.iload_n 1, 1) := by decide +kernel
theorem dX7_init_16 : decode cX7_init 16 = .ok (.bipush 8, 2) := by decide +kernel
theorem dX7_init_18 : decode cX7_init 18 = .ok (.if_icmp .ge 22, 3) := by decide +kernel
theorem dX7_init_21 : decode cX7_init 21 = .ok (.aload_n 0, 1) := by decide +kernel
theorem dX7_init_22 : decode cX7_init 22 = .ok (.getfield 11, 3) := by decide +kernel
theorem dX7_init_25 : decode cX7_init 25 = .ok (.iload_n 1, 1) := by decide +kernel
theorem dX7_init_26 : decode cX7_init 26 = .ok (.new 9, 3) := by decide +kernel
theorem dX7_init_29 : decode cX7_init 29 = .ok (.dup, 1) := by decide +kernel
theorem dX7_init_30 : decode cX7_init 30 = .ok (.invokespecial 15, 3) := by decide +kernel
theorem dX7_init_33 : decode cX7_init 33 = .ok (.aastore, 1) := by decide +kernel
theorem dX7_init_34 : decode cX7_init 34 = .ok (.iinc 1 1, 3) := by decide +kernel
theorem dX7_init_37 : decode cX7_init 37 = .ok (.goto (-22), 3) := by decide +kernel
theorem dX7_init_40 : decode cX7_init 40 = .ok (.aload_n 0, 1) := by decide +kernel
theorem dX7_init_41 : decode cX7_init 41 = .ok (.iconst 0, 1) := by decide +kernel
theorem dX7_init_42 : decode cX7_init 42 = .ok (.putfield 16, 3) := by decide +kernel
theorem dX7_init_45 : decode cX7_init 45 = .ok (.aload_n 0, 1) := by decide +kernel
theorem dX7_init_46 : decode cX7_init 46 = .ok (.iconst 0, 1) := by decide +kernel
theorem dX7_init_47 : decode cX7_init 47 = .ok (.putfield 20, 3) := by decide +kernel
theorem dX7_init_50 : decode cX7_init 50 = .ok (.return_, 1) := by decide +kernel
theorem dX7_size_0 : decode cX7_size 0 = .ok (.aload_n 0, 1) := by decide +kernel
theorem dX7_size_1 : decode cX7_size 1 = .ok (.getfield 20, 3) := by decide +kernel
theorem dX7_size_4 : decode cX7_size 4 = .ok (.ireturn, 1) := by decide +kernel
theorem dX7_keep_0 : decode cX7_keep 0 = .ok (.aload_n 0, 1) := by decide +kernel
theorem dX7_keep_1 : decode cX7_keep 1 = .ok (.getfield 11, 3) := by decide +kernel
theorem dX7_keep_4 : decode cX7_keep 4 = .ok (.aload_n 0, 1) := by decide +kernel
theorem dX7_keep_5 : decode cX7_keep 5 = .ok (.getfield 16, 3) := by decide +kernel
theorem dX7_keep_8 : decode cX7_keep 8 = .ok (.aload_n 0, 1) := by decide +kernel
theorem dX7_keep_9 : decode cX7_keep 9 = .ok (.getfield 20, 3) := by decide +kernel
theorem dX7_keep_12 : decode cX7_keep 12 = .ok (.iadd, 1) := by decide +kernel
theorem dX7_keep_13 : decode cX7_keep 13 = .ok (.bipush 8, 2) := by decide +kernel
theorem dX7_keep_15 : decode cX7_keep 15 = .ok (.irem, 1) := by decide +kernel
theorem dX7_keep_16 : decode cX7_keep 16 = .ok (.aaload, 1) := by decide +kernel
theorem dX7_keep_17 : decode cX7_keep 17 = .ok (.aload_n 1, 1) := by decide +kernel
theorem dX7_keep_18 : decode cX7_keep 18 = .ok (.invokevirtual 23, 3) := by decide +kernel
theorem dX7_keep_21 : decode cX7_keep 21 = .ok (.aload_n 0, 1) := by decide +kernel
theorem dX7_keep_22 : decode cX7_keep 22 = .ok (.getfield 20, 3) := by decide +kernel
theorem dX7_keep_25 : decode cX7_keep 25 = .ok (.bipush 8, 2) := by decide +kernel
theorem dX7_keep_27 : decode cX7_keep 27 = .ok (.if_icmp .ge 16, 3) := by decide +kernel
theorem dX7_keep_30 : decode cX7_keep 30 = .ok (.aload_n 0, 1) := by decide +kernel
theorem dX7_keep_31 : decode cX7_keep 31 = .ok (.dup, 1) := by decide +kernel
theorem dX7_keep_32 : decode cX7_keep 32 = .ok (.getfield 20, 3) := by decide +kernel
theorem dX7_keep_35 : decode cX7_keep 35 = .ok (.iconst 1, 1) := by decide +kernel
theorem dX7_keep_36 : decode cX7_keep 36 = .ok (.iadd, 1) := by decide +kernel
theorem dX7_keep_37 : decode cX7_keep 37 = .ok (.putfield 20, 3) := by decide +kernel
theorem dX7_keep_40 : decode cX7_keep 40 = .ok (.goto 16, 3) := by decide +kernel
theorem dX7_keep_43 : decode cX7_keep 43 = .ok (.aload_n 0, 1) := by decide +kernel
theorem dX7_keep_44 : decode cX7_keep 44 = .ok (.aload_n 0, 1) := by decide +kernel
theorem dX7_keep_45 : decode cX7_keep 45 = .ok (.getfield 16, 3) := by decide +kernel
theorem dX7_keep_48 : decode cX7_keep 48 = .ok (.iconst 1, 1) := by decide +kernel
theorem dX7_keep_49 : decode cX7_keep 49 = .ok (.iadd, 1) := by decide +kernel
theorem dX7_keep_50 : decode cX7_keep 50 = .ok (.bipush 8, 2) := by decide +kernel
theorem dX7_keep_52 : decode cX7_keep 52 = .ok (.irem, 1) := by decide +kernel
theorem dX7_keep_53 : decode cX7_keep 53 = .ok (.putfield 16, 3) := by decide +kernel
theorem dX7_keep_56 : decode cX7_keep 56 = .ok (.return_, 1) := by decide +kernel
theorem dX7_giveBack_0 : decode cX7_giveBack 0 = .ok (.aload_n 0, 1) := by decide +kernel
theorem dX7_giveBack_1 : decode cX7_giveBack 1 = .ok (.getfield 20, 3) := by decide +kernel
theorem dX7_giveBack_4 : decode cX7_giveBack 4 = .ok (.ifCond .le 34, 3) := by decide +kernel
theorem dX7_giveBack_7 : decode cX7_giveBack 7 = .ok (.aload_n 0, 1) := by decide +kernel
theorem dX7_giveBack_8 : decode cX7_giveBack 8 = .ok (.dup, 1) := by decide +kernel
theorem dX7_giveBack_9 : decode cX7_giveBack 9 = .ok (.getfield 20, 3) := by decide +kernel
theorem dX7_giveBack_12 : decode cX7_giveBack 12 = .ok (.iconst 1, 1) := by decide +kernel
theorem dX7_giveBack_13 : decode cX7_giveBack 13 = .ok (.isub, 1) := by decide +kernel
theorem dX7_giveBack_14 : decode cX7_giveBack 14 = .ok (.putfield 20, 3) := by decide +kernel
theorem dX7_giveBack_17 : decode cX7_giveBack 17 = .ok (.aload_n 1, 1) := by decide +kernel
theorem dX7_giveBack_18 : decode cX7_giveBack 18 = .ok (.aload_n 0, 1) := by decide +kernel
theorem dX7_giveBack_19 : decode cX7_giveBack 19 = .ok (.getfield 11, 3) := by decide +kernel
theorem dX7_giveBack_22 : decode cX7_giveBack 22 = .ok (.aload_n 0, 1) := by decide +kernel
theorem dX7_giveBack_23 : decode cX7_giveBack 23 = .ok (.getfield 16, 3) := by decide +kernel
theorem dX7_giveBack_26 : decode cX7_giveBack 26 = .ok (.aload_n 0, 1) := by decide +kernel
theorem dX7_giveBack_27 : decode cX7_giveBack 27 = .ok (.getfield 20, 3) := by decide +kernel
theorem dX7_giveBack_30 : decode cX7_giveBack 30 = .ok (.iadd, 1) := by decide +kernel
theorem dX7_giveBack_31 : decode cX7_giveBack 31 = .ok (.bipush 8, 2) := by decide +kernel
theorem dX7_giveBack_33 : decode cX7_giveBack 33 = .ok (.irem, 1) := by decide +kernel
theorem dX7_giveBack_34 : decode cX7_giveBack 34 = .ok (.aaload, 1) := by decide +kernel
theorem dX7_giveBack_35 : decode cX7_giveBack 35 = .ok (.invokevirtual 23, 3) := by decide +kernel
theorem dX7_giveBack_38 : decode cX7_giveBack 38 = .ok (.return_, 1) := by decide +kernel
theorem dX8_init_0 : decode cX8_init 0 = .ok (.aload_n 0, 1) := by decide +kernel
theorem dX8_init_1 : decode cX8_init 1 = .ok (.invokespecial 1, 3) := by decide +kernel
theorem dX8_init_4 : decode cX8_init 4 = .ok (.aload_n 0, 1) := by decide +kernel
theorem dX8_init_5 : decode cX8_init 5 = .ok (.bipush 60, 2) := by decide +kernel
theorem dX8_init_7 : decode cX8_init 7 = .ok (.newarray .int, 2) := by decide +kernel
theorem dX8_init_9 : decode cX8_init 9 = .ok (.putfield 9, 3) := by decide +kernel
theorem dX8_init_12 : decode cX8_init 12 = .ok (.aload_n 0, 1) := by decide +kernel
theorem dX8_init_13 : decode cX8_init 13 = .ok (.bipush 60, 2) := by decide +kernel
theorem dX8_init_15 : decode cX8_init 15 = .ok (.newarray .int, 2) := by decide +kernel
theorem dX8_init_17 : decode cX8_init 17 = .ok (.putfield 13, 3) := by decide +kernel
theorem dX8_init_20 : decode cX8_init 20 = .ok (.aload_n 0, 1) := by decide +kernel
theorem dX8_init_21 : decode cX8_init 21 = .ok (.sipush 240, 3) := by decide +kernel
theorem dX8_init_24 : decode cX8_init 24 = .ok (.newarray .int, 2) := by decide +kernel
theorem dX8_init_26 : decode cX8_init 26 = .ok (.putfield 16, 3) := by decide +kernel
theorem dX8_init_29 : decode cX8_init 29 = .ok (.aload_n 0, 1) := by decide +kernel
theorem dX8_init_30 : decode cX8_init 30 = .ok (.iconst 0, 1) := by decide +kernel
theorem dX8_init_31 : decode cX8_init 31 = .ok (.putfield 19, 3) := by decide +kernel
theorem dX8_init_34 : decode cX8_init 34 = .ok (.return_, 1) := by decide +kernel
theorem dX8_stepX_0 : decode cX8_stepX 0 = .ok (.getstatic 23, 3) := by decide +kernel
theorem dX8_stepX_3 : decode cX8_stepX 3 = .ok (.iload_n 0, 1) := by decide +kernel
theorem dX8_stepX_4 : decode cX8_stepX 4 = .ok (.iconst 3, 1) := by decide +kernel
theorem dX8_stepX_5 : decode cX8_stepX 5 = .ok (.iand, 1) := by decide +kernel
theorem dX8_stepX_6 : decode cX8_stepX 6 = .ok (.iaload, 1) := by decide +kernel
theorem dX8_stepX_7 : decode cX8_stepX 7 = .ok (.ireturn, 1) := by decide +kernel
theorem dX8_stepY_0 : decode cX8_stepY 0 = .ok (.getstatic 26, 3) := by decide +kernel
theorem dX8_stepY_3 : decode cX8_stepY 3 = .ok (.iload_n 0, 1) := by decide +kernel
theorem dX8_stepY_4 : decode cX8_stepY 4 = .ok (.iconst 3, 1) := by decide +kernel
theorem dX8_stepY_5 : decode cX8_stepY 5 = .ok (.iand, 1) := by decide +kernel
theorem dX8_stepY_6 : decode cX8_stepY 6 = .ok (.iaload, 1) := by decide +kernel
theorem dX8_stepY_7 : decode cX8_stepY 7 = .ok (.ireturn, 1) := by decide +kernel
theorem dX8_mirrored_0 : decode cX8_mirrored 0 = .ok (.iconst 2, 1) := by decide +kernel
theorem dX8_mirrored_1 : decode cX8_mirrored 1 = .ok (.iload_n 0, 1) := by decide +kernel
theorem dX8_mirrored_2 : decode cX8_mirrored 2 = .ok (.isub, 1) := by decide +kernel
theorem dX8_mirrored_3 : decode cX8_mirrored 3 = .ok (.iconst 3, 1) := by decide +kernel
theorem dX8_mirrored_4 : decode cX8_mirrored 4 = .ok (.iand, 1) := by decide +kernel
theorem dX8_mirrored_5 : decode cX8_mirrored 5 = .ok (.ireturn, 1) := by decide +kernel
theorem dX8_size_0 : decode cX8_size 0 = .ok (.aload_n 0, 1) := by decide +kernel
theorem dX8_size_1 : decode cX8_size 1 = .ok (.getfield 19, 3) := by decide +kernel
theorem dX8_size_4 : decode cX8_size 4 = .ok (.ireturn, 1) := by decide +kernel
theorem dX8_xOf_0 : decode cX8_xOf 0 = .ok (.aload_n 0, 1) := by decide +kernel
theorem dX8_xOf_1 : decode cX8_xOf 1 = .ok (.getfield 9, 3) := by decide +kernel
theorem dX8_xOf_4 : decode cX8_xOf 4 = .ok (.iload_n 1, 1) := by decide +kernel
theorem dX8_xOf_5 : decode cX8_xOf 5 = .ok (.iaload, 1) := by decide +kernel
theorem dX8_xOf_6 : decode cX8_xOf 6 = .ok (.ireturn, 1) := by decide +kernel
theorem dX8_yOf_0 : decode cX8_yOf 0 = .ok (.aload_n 0, 1) := by decide +kernel
theorem dX8_yOf_1 : decode cX8_yOf 1 = .ok (.getfield 13, 3) := by decide +kernel
theorem dX8_yOf_4 : decode cX8_yOf 4 = .ok (.iload_n 1, 1) := by decide +kernel
theorem dX8_yOf_5 : decode cX8_yOf 5 = .ok (.iaload, 1) := by decide +kernel
theorem dX8_yOf_6 : decode cX8_yOf 6 = .ok (.ireturn, 1) := by decide +kernel
theorem dX8_creaseAt_0 : decode cX8_creaseAt 0 = .ok (.aload_n 0, 1) := by decide +kernel
theorem dX8_creaseAt_1 : decode cX8_creaseAt 1 = .ok (.getfield 16, 3) := by decide +kernel
theorem dX8_creaseAt_4 : decode cX8_creaseAt 4 = .ok (.iconst 4, 1) := by decide +kernel
theorem dX8_creaseAt_5 : decode cX8_creaseAt 5 = .ok (.iload_n 1, 1) := by decide +kernel
theorem dX8_creaseAt_6 : decode cX8_creaseAt 6 = .ok (.imul, 1) := by decide +kernel
theorem dX8_creaseAt_7 : decode cX8_creaseAt 7 = .ok (.iload_n 2, 1) := by decide +kernel
theorem dX8_creaseAt_8 : decode cX8_creaseAt 8 = .ok (.iadd, 1) := by decide +kernel
theorem dX8_creaseAt_9 : decode cX8_creaseAt 9 = .ok (.iaload, 1) := by decide +kernel
theorem dX8_creaseAt_10 : decode cX8_creaseAt 10 = .ok (.ireturn, 1) := by decide +kernel
theorem dX8_creasesOf_0 : decode cX8_creasesOf 0 = .ok (.iconst 0, 1) := by decide +kernel
theorem dX8_creasesOf_1 : decode cX8_creasesOf 1 = .ok (.istore_n 2, 1) := by decide +kernel
theorem dX8_creasesOf_2 : decode cX8_creasesOf 2 = .ok (.iconst 0, 1) := by decide +kernel
theorem dX8_creasesOf_3 : decode cX8_creasesOf 3 = .ok (.istore_n 3, 1) := by decide +kernel
theorem dX8_creasesOf_4 : decode cX8_creasesOf 4 = .ok (.iload_n 3, 1) := by decide +kernel
theorem dX8_creasesOf_5 : decode cX8_creasesOf 5 = .ok (.iconst 4, 1) := by decide +kernel
theorem dX8_creasesOf_6 : decode cX8_creasesOf 6 = .ok (.if_icmp .ge 26, 3) := by decide +kernel
theorem dX8_creasesOf_9 : decode cX8_creasesOf 9 = .ok (.iload_n 2, 1) := by decide +kernel
theorem dX8_creasesOf_10 : decode cX8_creasesOf 10 = .ok (.aload_n 0, 1) := by decide +kernel
theorem dX8_creasesOf_11 : decode cX8_creasesOf 11 = .ok (.iload_n 1, 1) := by decide +kernel
theorem dX8_creasesOf_12 : decode cX8_creasesOf 12 = .ok (.iload_n 3, 1) := by decide +kernel
theorem dX8_creasesOf_13 : decode cX8_creasesOf 13 = .ok (.invokevirtual 29, 3) := by decide +kernel
theorem dX8_creasesOf_16 : decode cX8_creasesOf 16 = .ok (.ifCond .ne 7, 3) := by decide +kernel
theorem dX8_creasesOf_19 : decode cX8_creasesOf 19 = .ok (.iconst 0, 1) := by decide +kernel
theorem dX8_creasesOf_20 : decode cX8_creasesOf 20 = .ok (.goto 4, 3) := by decide +kernel
theorem dX8_creasesOf_23 : decode cX8_creasesOf 23 = .ok (.iconst 1, 1) := by decide +kernel
theorem dX8_creasesOf_24 : decode cX8_creasesOf 24 = .ok (.iadd, 1) := by decide +kernel
theorem dX8_creasesOf_25 : decode cX8_creasesOf 25 = .ok (.istore_n 2, 1) := by decide +kernel
theorem dX8_creasesOf_26 : decode cX8_creasesOf 26 = .ok (.iinc 3 1, 3) := by decide +kernel
theorem dX8_creasesOf_29 : decode cX8_creasesOf 29 = .ok (.goto (-25), 3) := by decide +kernel
theorem dX8_creasesOf_32 : decode cX8_creasesOf 32 = .ok (.iload_n 2, 1) := by decide +kernel
theorem dX8_creasesOf_33 : decode cX8_creasesOf 33 = .ok (.ireturn, 1) := by decide +kernel
theorem dX8_creaseCount_0 : decode cX8_creaseCount 0 = .ok (.iconst 0, 1) := by decide +kernel
theorem dX8_creaseCount_1 : decode cX8_creaseCount 1 = .ok (.istore_n 1, 1) := by decide +kernel
theorem dX8_creaseCount_2 : decode cX8_creaseCount 2 = .ok (.iconst 0, 1) := by decide +kernel
theorem dX8_creaseCount_3 : decode cX8_creaseCount 3 = .ok (.istore_n 2, 1) := by decide +kernel
theorem dX8_creaseCount_4 : decode cX8_creaseCount 4 = .ok (.iload_n 2, 1) := by decide +kernel
theorem dX8_creaseCount_5 : decode cX8_creaseCount 5 = .ok (.aload_n 0, 1) := by decide +kernel
theorem dX8_creaseCount_6 : decode cX8_creaseCount 6 = .ok (.getfield 19, 3) := by decide +kernel
theorem dX8_creaseCount_9 : decode cX8_creaseCount 9 = .ok (.if_icmp .ge 17, 3) := by decide +kernel
theorem dX8_creaseCount_12 : decode cX8_creaseCount 12 = .ok (.iload_n 1, 1) := by decide +kernel
theorem dX8_creaseCount_13 : decode cX8_creaseCount 13 = .ok (.aload_n 0, 1) := by decide +kernel
theorem dX8_creaseCount_14 : decode cX8_creaseCount 14 = .ok (.iload_n 2, 1) := by decide +kernel
theorem dX8_creaseCount_15 : decode cX8_creaseCount 15 = .ok (.invokevirtual 33, 3) := by decide +kernel
theorem dX8_creaseCount_18 : decode cX8_creaseCount 18 = .ok (.iadd, 1) := by decide +kernel
theorem dX8_creaseCount_19 : decode cX8_creaseCount 19 = .ok (.istore_n 1, 1) := by decide +kernel
theorem dX8_creaseCount_20 : decode cX8_creaseCount 20 = .ok (.iinc 2 1, 3) := by decide +kernel
theorem dX8_creaseCount_23 : decode cX8_creaseCount 23 = .ok (.goto (-19), 3) := by decide +kernel
theorem dX8_creaseCount_26 : decode cX8_creaseCount 26 = .ok (.iload_n 1, 1) := by decide +kernel
theorem dX8_creaseCount_27 : decode cX8_creaseCount 27 = .ok (.iconst 2, 1) := by decide +kernel
theorem dX8_creaseCount_28 : decode cX8_creaseCount 28 = .ok (.idiv, 1) := by decide +kernel
theorem dX8_creaseCount_29 : decode cX8_creaseCount 29 = .ok (.ireturn, 1) := by decide +kernel
theorem dX8_drop_0 : decode cX8_drop 0 = .ok (.aload_n 0, 1) := by decide +kernel
theorem dX8_drop_1 : decode cX8_drop 1 = .ok (.iconst 0, 1) := by decide +kernel
theorem dX8_drop_2 : decode cX8_drop 2 = .ok (.putfield 19, 3) := by decide +kernel
theorem dX8_drop_5 : decode cX8_drop 5 = .ok (.return_, 1) := by decide +kernel
theorem dX8_become_0 : decode cX8_become 0 = .ok (.aload_n 0, 1) := by decide +kernel
theorem dX8_become_1 : decode cX8_become 1 = .ok (.aload_n 1, 1) := by decide +kernel
theorem dX8_become_2 : decode cX8_become 2 = .ok (.getfield 19, 3) := by decide +kernel
theorem dX8_become_5 : decode cX8_become 5 = .ok (.putfield 19, 3) := by decide +kernel
theorem dX8_become_8 : decode cX8_become 8 = .ok (.aload_n 1, 1) := by decide +kernel
theorem dX8_become_9 : decode cX8_become 9 = .ok (.getfield 9, 3) := by decide +kernel
theorem dX8_become_12 : decode cX8_become 12 = .ok (.iconst 0, 1) := by decide +kernel
theorem dX8_become_13 : decode cX8_become 13 = .ok (.aload_n 0, 1) := by decide +kernel
theorem dX8_become_14 : decode cX8_become 14 = .ok (.getfield 9, 3) := by decide +kernel
theorem dX8_become_17 : decode cX8_become 17 = .ok (.iconst 0, 1) := by decide +kernel
theorem dX8_become_18 : decode cX8_become 18 = .ok (.aload_n 0, 1) := by decide +kernel
theorem dX8_become_19 : decode cX8_become 19 = .ok (.getfield 19, 3) := by decide +kernel
theorem dX8_become_22 : decode cX8_become 22 = .ok (.invokestatic 37, 3) := by decide +kernel
theorem dX8_become_25 : decode cX8_become 25 = .ok (.aload_n 1, 1) := by decide +kernel
theorem dX8_become_26 : decode cX8_become 26 = .ok (.getfield 13, 3) := by decide +kernel
theorem dX8_become_29 : decode cX8_become 29 = .ok (.iconst 0, 1) := by decide +kernel
theorem dX8_become_30 : decode cX8_become 30 = .ok (.aload_n 0, 1) := by decide +kernel
theorem dX8_become_31 : decode cX8_become 31 = .ok (.getfield 13, 3) := by decide +kernel
theorem dX8_become_34 : decode cX8_become 34 = .ok (.iconst 0, 1) := by decide +kernel
theorem dX8_become_35 : decode cX8_become 35 = .ok (.aload_n 0, 1) := by decide +kernel
theorem dX8_become_36 : decode cX8_become 36 = .ok (.getfield 19, 3) := by decide +kernel
theorem dX8_become_39 : decode cX8_become 39 = .ok (.invokestatic 37, 3) := by decide +kernel
theorem dX8_become_42 : decode cX8_become 42 = .ok (.aload_n 1, 1) := by decide +kernel
theorem dX8_become_43 : decode cX8_become 43 = .ok (.getfield 16, 3) := by decide +kernel
theorem dX8_become_46 : decode cX8_become 46 = .ok (.iconst 0, 1) := by decide +kernel
theorem dX8_become_47 : decode cX8_become 47 = .ok (.aload_n 0, 1) := by decide +kernel
theorem dX8_become_48 : decode cX8_become 48 = .ok (.getfield 16, 3) := by decide +kernel
theorem dX8_become_51 : decode cX8_become 51 = .ok (.iconst 0, 1) := by decide +kernel
theorem dX8_become_52 : decode cX8_become 52 = .ok (.iconst 4, 1) := by decide +kernel
theorem dX8_become_53 : decode cX8_become 53 = .ok (.aload_n 0, 1) := by decide +kernel
theorem dX8_become_54 : decode cX8_become 54 = .ok (.getfield 19, 3) := by decide +kernel
theorem dX8_become_57 : decode cX8_become 57 = .ok (.imul, 1) := by decide +kernel
theorem dX8_become_58 : decode cX8_become 58 = .ok (.invokestatic 37, 3) := by decide +kernel
theorem dX8_become_61 : decode cX8_become 61 = .ok (.return_, 1) := by decide +kernel
theorem dX8_find_0 : decode cX8_find 0 = .ok (.aload_n 0, 1) := by decide +kernel
theorem dX8_find_1 : decode cX8_find 1 = .ok (.iload_n 1, 1) := by decide +kernel
theorem dX8_find_2 : decode cX8_find 2 = .ok (.iload_n 2, 1) := by decide +kernel
theorem dX8_find_3 : decode cX8_find 3 = .ok (.invokevirtual 43, 3) := by decide +kernel
theorem dX8_find_6 : decode cX8_find 6 = .ok (.istore_n 3, 1) := by decide +kernel
theorem dX8_find_7 : decode cX8_find 7 = .ok (.iload_n 3, 1) := by decide +kernel
theorem dX8_find_8 : decode cX8_find 8 = .ok (.aload_n 0, 1) := by decide +kernel
theorem dX8_find_9 : decode cX8_find 9 = .ok (.getfield 19, 3) := by decide +kernel
theorem dX8_find_12 : decode cX8_find 12 = .ok (.if_icmp .ge 27, 3) := by decide +kernel
theorem dX8_find_15 : decode cX8_find 15 = .ok (.aload_n 0, 1) := by decide +kernel
theorem dX8_find_16 : decode cX8_find 16 = .ok (.getfield 9, 3) := by decide +kernel
theorem dX8_find_19 : decode cX8_find 19 = .ok (.iload_n 3, 1) := by decide +kernel
theorem dX8_find_20 : decode cX8_find 20 = .ok (.iaload, 1) := by decide +kernel
theorem dX8_find_21 : decode cX8_find 21 = .ok (.iload_n 1, 1) := by decide +kernel
theorem dX8_find_22 : decode cX8_find 22 = .ok (.if_icmp .ne 17, 3) := by decide +kernel
theorem dX8_find_25 : decode cX8_find 25 = .ok (.aload_n 0, 1) := by decide +kernel
theorem dX8_find_26 : decode cX8_find 26 = .ok (.getfield 13, 3) := by decide +kernel
theorem dX8_find_29 : decode cX8_find 29 = .ok (.iload_n 3, 1) := by decide +kernel
theorem dX8_find_30 : decode cX8_find 30 = .ok (.iaload, 1) := by decide +kernel
theorem dX8_find_31 : decode cX8_find 31 = .ok (.iload_n 2, 1) := by decide +kernel
theorem dX8_find_32 : decode cX8_find 32 = .ok (.if_icmp .ne 7, 3) := by decide +kernel
theorem dX8_find_35 : decode cX8_find 35 = .ok (.iload_n 3, 1) := by decide +kernel
theorem dX8_find_36 : decode cX8_find 36 = .ok (.goto 4, 3) := by decide +kernel
theorem dX8_find_39 : decode cX8_find 39 = .ok (.iconst (-1), 1) := by decide +kernel
theorem dX8_find_40 : decode cX8_find 40 = .ok (.ireturn, 1) := by decide +kernel
theorem dX8_beside_0 : decode cX8_beside 0 = .ok (.aload_n 0, 1) := by decide +kernel
theorem dX8_beside_1 : decode cX8_beside 1 = .ok (.aload_n 0, 1) := by decide +kernel
theorem dX8_beside_2 : decode cX8_beside 2 = .ok (.getfield 9, 3) := by decide +kernel
theorem dX8_beside_5 : decode cX8_beside 5 = .ok (.iload_n 1, 1) := by decide +kernel
theorem dX8_beside_6 : decode cX8_beside 6 = .ok (.iaload, 1) := by decide +kernel
theorem dX8_beside_7 : decode cX8_beside 7 = .ok (.iload_n 2, 1) := by decide +kernel
theorem dX8_beside_8 : decode cX8_beside 8 = .ok (.invokestatic 46, 3) := by decide +kernel
theorem dX8_beside_11 : decode cX8_beside 11 = .ok (.iadd, 1) := by decide +kernel
theorem dX8_beside_12 : decode cX8_beside 12 = .ok (.aload_n 0, 1) := by decide +kernel
theorem dX8_beside_13 : decode cX8_beside 13 = .ok (.getfield 13, 3) := by decide +kernel
theorem dX8_beside_16 : decode cX8_beside 16 = .ok (.iload_n 1, 1) := by decide +kernel
theorem dX8_beside_17 : decode cX8_beside 17 = .ok (.iaload, 1) := by decide +kernel
theorem dX8_beside_18 : decode cX8_beside 18 = .ok (.iload_n 2, 1) := by decide +kernel
theorem dX8_beside_19 : decode cX8_beside 19 = .ok (.invokestatic 49, 3) := by decide +kernel
theorem dX8_beside_22 : decode cX8_beside 22 = .ok (.iadd, 1) := by decide +kernel
theorem dX8_beside_23 : decode cX8_beside 23 = .ok (.invokevirtual 52, 3) := by decide +kernel
theorem dX8_beside_26 : decode cX8_beside 26 = .ok (.ireturn, 1) := by decide +kernel
theorem dX8_firstNotBefore_0 : decode cX8_firstNotBefore 0 = .ok (.iconst 0, 1) := by decide +kernel
theorem dX8_firstNotBefore_1 : decode cX8_firstNotBefore 1 = .ok (.istore_n 3, 1) := by decide +kernel
theorem dX8_firstNotBefore_2 : decode cX8_firstNotBefore 2 = .ok (.iload_n 3, 1) := by decide +kernel
theorem dX8_firstNotBefore_3 : decode cX8_firstNotBefore 3 = .ok (.aload_n 0, 1) := by decide +kernel
theorem dX8_firstNotBefore_4 : decode cX8_firstNotBefore 4 = .ok (.getfield 19, 3) := by decide +kernel
theorem dX8_firstNotBefore_7 : decode cX8_firstNotBefore 7 = .ok (.if_icmp .ge 41, 3) := by decide +kernel
theorem dX8_firstNotBefore_10 : decode cX8_firstNotBefore 10 = .ok (.aload_n 0, 1) := by decide +kernel
theorem dX8_firstNotBefore_11 : decode cX8_firstNotBefore 11 = .ok (.getfield 13, 3) := by decide +kernel
theorem dX8_firstNotBefore_14 : decode cX8_firstNotBefore 14 = .ok (.iload_n 3, 1) := by decide +kernel
theorem dX8_firstNotBefore_15 : decode cX8_firstNotBefore 15 = .ok (.iaload, 1) := by decide +kernel
theorem dX8_firstNotBefore_16 : decode cX8_firstNotBefore 16 = .ok (.iload_n 2, 1) := by decide +kernel
theorem dX8_firstNotBefore_17 : decode cX8_firstNotBefore 17 = .ok (.if_icmp .gt 23, 3) := by decide +kernel
theorem dX8_firstNotBefore_20 : decode cX8_firstNotBefore 20 = .ok (.aload_n 0, 1) := by decide +kernel
theorem dX8_firstNotBefore_21 : decode cX8_firstNotBefore 21 = .ok (.getfield 13, 3) := by decide +kernel
theorem dX8_firstNotBefore_24 : decode cX8_firstNotBefore 24 = .ok (.iload_n 3, 1) := by decide +kernel
theorem dX8_firstNotBefore_25 : decode cX8_firstNotBefore 25 = .ok (.iaload, 1) := by decide +kernel
theorem dX8_firstNotBefore_26 : decode cX8_firstNotBefore 26 = .ok (.iload_n 2, 1) := by decide +kernel
theorem dX8_firstNotBefore_27 : decode cX8_firstNotBefore 27 = .ok (.if_icmp .ne 15, 3) := by decide +kernel
theorem dX8_firstNotBefore_30 : decode cX8_firstNotBefore 30 = .ok (.aload_n 0, 1) := by decide +kernel
theorem dX8_firstNotBefore_31 : decode cX8_firstNotBefore 31 = .ok (.getfield 9, 3) := by decide +kernel
theorem dX8_firstNotBefore_34 : decode cX8_firstNotBefore 34 = .ok (.iload_n 3, 1) := by decide +kernel
theorem dX8_firstNotBefore_35 : decode cX8_firstNotBefore 35 = .ok (.iaload, 1) := by decide +kernel
theorem dX8_firstNotBefore_36 : decode cX8_firstNotBefore 36 = .ok (.iload_n 1, 1) := by decide +kernel
theorem dX8_firstNotBefore_37 : decode cX8_firstNotBefore 37 = .ok (.if_icmp .lt 5, 3) := by decide +kernel
theorem dX8_firstNotBefore_40 : decode cX8_firstNotBefore 40 = .ok (.iload_n 3, 1) := by decide +kernel
theorem dX8_firstNotBefore_41 : decode cX8_firstNotBefore 41 = .ok (.ireturn, 1) := by decide +kernel
theorem dX8_firstNotBefore_42 : decode cX8_firstNotBefore 42 = .ok (.iinc 3 1, 3) := by decide +kernel
theorem dX8_firstNotBefore_45 : decode cX8_firstNotBefore 45 = .ok (.goto (-43), 3) := by decide +kernel
theorem dX8_firstNotBefore_48 : decode cX8_firstNotBefore 48 = .ok (.aload_n 0, 1) := by decide +kernel
theorem dX8_firstNotBefore_49 : decode cX8_firstNotBefore 49 = .ok (.getfield 19, 3) := by decide +kernel
end
section
theorem dX8_firstNotBefore_52 : decode cX8_firstNotBefore 52 = .ok (.ireturn, 1) := by decide +kernel
theorem dX8_add_0 : decode cX8_add 0 = .ok (.aload_n 0, 1) := by decide +kernel
theorem dX8_add_1 : decode cX8_add 1 = .ok (.getfield 19, 3) := by decide +kernel
theorem dX8_add_4 : decode cX8_add 4 = .ok (.bipush 60, 2) := by decide +kernel
theorem dX8_add_6 : decode cX8_add 6 = .ok (.if_icmp .lt 5, 3) := by decide +kernel
theorem dX8_add_9 : decode cX8_add 9 = .ok (.iconst (-1), 1) := by decide +kernel
theorem dX8_add_10 : decode cX8_add 10 = .ok (.ireturn, 1) := by decide +kernel
theorem dX8_add_11 : decode cX8_add 11 = .ok (.aload_n 0, 1) := by decide +kernel
theorem dX8_add_12 : decode cX8_add 12 = .ok (.iload_n 1, 1) := by decide +kernel
theorem dX8_add_13 : decode cX8_add 13 = .ok (.iload_n 2, 1) := by decide +kernel
theorem dX8_add_14 : decode cX8_add 14 = .ok (.invokevirtual 43, 3) := by decide +kernel
theorem dX8_add_17 : decode cX8_add 17 = .ok (.istore_n 3, 1) := by decide +kernel
theorem dX8_add_18 : decode cX8_add 18 = .ok (.aload_n 0, 1) := by decide +kernel
theorem dX8_add_19 : decode cX8_add 19 = .ok (.iload_n 3, 1) := by decide +kernel
theorem dX8_add_20 : decode cX8_add 20 = .ok (.iload_n 3, 1) := by decide +kernel
theorem dX8_add_21 : decode cX8_add 21 = .ok (.iconst 1, 1) := by decide +kernel
theorem dX8_add_22 : decode cX8_add 22 = .ok (.iadd, 1) := by decide +kernel
theorem dX8_add_23 : decode cX8_add 23 = .ok (.aload_n 0, 1) := by decide +kernel
theorem dX8_add_24 : decode cX8_add 24 = .ok (.getfield 19, 3) := by decide +kernel
theorem dX8_add_27 : decode cX8_add 27 = .ok (.iload_n 3, 1) := by decide +kernel
theorem dX8_add_28 : decode cX8_add 28 = .ok (.isub, 1) := by decide +kernel
theorem dX8_add_29 : decode cX8_add 29 = .ok (.invokevirtual 55, 3) := by decide +kernel
theorem dX8_add_32 : decode cX8_add 32 = .ok (.aload_n 0, 1) := by decide +kernel
theorem dX8_add_33 : decode cX8_add 33 = .ok (.dup, 1) := by decide +kernel
theorem dX8_add_34 : decode cX8_add 34 = .ok (.getfield 19, 3) := by decide +kernel
theorem dX8_add_37 : decode cX8_add 37 = .ok (.iconst 1, 1) := by decide +kernel
theorem dX8_add_38 : decode cX8_add 38 = .ok (.iadd, 1) := by decide +kernel
theorem dX8_add_39 : decode cX8_add 39 = .ok (.putfield 19, 3) := by decide +kernel
theorem dX8_add_42 : decode cX8_add 42 = .ok (.aload_n 0, 1) := by decide +kernel
theorem dX8_add_43 : decode cX8_add 43 = .ok (.getfield 9, 3) := by decide +kernel
theorem dX8_add_46 : decode cX8_add 46 = .ok (.iload_n 3, 1) := by decide +kernel
theorem dX8_add_47 : decode cX8_add 47 = .ok (.iload_n 1, 1) := by decide +kernel
theorem dX8_add_48 : decode cX8_add 48 = .ok (.iastore, 1) := by decide +kernel
theorem dX8_add_49 : decode cX8_add 49 = .ok (.aload_n 0, 1) := by decide +kernel
theorem dX8_add_50 : decode cX8_add 50 = .ok (.getfield 13, 3) := by decide +kernel
theorem dX8_add_53 : decode cX8_add 53 = .ok (.iload_n 3, 1) := by decide +kernel
theorem dX8_add_54 : decode cX8_add 54 = .ok (.iload_n 2, 1) := by decide +kernel
theorem dX8_add_55 : decode cX8_add 55 = .ok (.iastore, 1) := by decide +kernel
theorem dX8_add_56 : decode cX8_add 56 = .ok (.iconst 0, 1) := by decide +kernel
theorem dX8_add_57 : decode cX8_add 57 = .ok (.istore 4, 2) := by decide +kernel
theorem dX8_add_59 : decode cX8_add 59 = .ok (.iload 4, 2) := by decide +kernel
theorem dX8_add_61 : decode cX8_add 61 = .ok (.iconst 4, 1) := by decide +kernel
theorem dX8_add_62 : decode cX8_add 62 = .ok (.if_icmp .ge 21, 3) := by decide +kernel
theorem dX8_add_65 : decode cX8_add 65 = .ok (.aload_n 0, 1) := by decide +kernel
theorem dX8_add_66 : decode cX8_add 66 = .ok (.getfield 16, 3) := by decide +kernel
theorem dX8_add_69 : decode cX8_add 69 = .ok (.iconst 4, 1) := by decide +kernel
theorem dX8_add_70 : decode cX8_add 70 = .ok (.iload_n 3, 1) := by decide +kernel
theorem dX8_add_71 : decode cX8_add 71 = .ok (.imul, 1) := by decide +kernel
theorem dX8_add_72 : decode cX8_add 72 = .ok (.iload 4, 2) := by decide +kernel
theorem dX8_add_74 : decode cX8_add 74 = .ok (.iadd, 1) := by decide +kernel
theorem dX8_add_75 : decode cX8_add 75 = .ok (.iconst 0, 1) := by decide +kernel
theorem dX8_add_76 : decode cX8_add 76 = .ok (.iastore, 1) := by decide +kernel
theorem dX8_add_77 : decode cX8_add 77 = .ok (.iinc 4 1, 3) := by decide +kernel
theorem dX8_add_80 : decode cX8_add 80 = .ok (.goto (-21), 3) := by decide +kernel
theorem dX8_add_83 : decode cX8_add 83 = .ok (.iload_n 3, 1) := by decide +kernel
theorem dX8_add_84 : decode cX8_add 84 = .ok (.ireturn, 1) := by decide +kernel
theorem dX8_remove_0 : decode cX8_remove 0 = .ok (.iconst 0, 1) := by decide +kernel
theorem dX8_remove_1 : decode cX8_remove 1 = .ok (.istore_n 2, 1) := by decide +kernel
theorem dX8_remove_2 : decode cX8_remove 2 = .ok (.iload_n 2, 1) := by decide +kernel
theorem dX8_remove_3 : decode cX8_remove 3 = .ok (.iconst 4, 1) := by decide +kernel
theorem dX8_remove_4 : decode cX8_remove 4 = .ok (.if_icmp .ge 28, 3) := by decide +kernel
theorem dX8_remove_7 : decode cX8_remove 7 = .ok (.aload_n 0, 1) := by decide +kernel
theorem dX8_remove_8 : decode cX8_remove 8 = .ok (.iload_n 1, 1) := by decide +kernel
theorem dX8_remove_9 : decode cX8_remove 9 = .ok (.iload_n 2, 1) := by decide +kernel
theorem dX8_remove_10 : decode cX8_remove 10 = .ok (.invokevirtual 59, 3) := by decide +kernel
theorem dX8_remove_13 : decode cX8_remove 13 = .ok (.istore_n 3, 1) := by decide +kernel
theorem dX8_remove_14 : decode cX8_remove 14 = .ok (.iload_n 3, 1) := by decide +kernel
theorem dX8_remove_15 : decode cX8_remove 15 = .ok (.ifCond .lt 11, 3) := by decide +kernel
theorem dX8_remove_18 : decode cX8_remove 18 = .ok (.aload_n 0, 1) := by decide +kernel
theorem dX8_remove_19 : decode cX8_remove 19 = .ok (.iload_n 1, 1) := by decide +kernel
theorem dX8_remove_20 : decode cX8_remove 20 = .ok (.iload_n 3, 1) := by decide +kernel
theorem dX8_remove_21 : decode cX8_remove 21 = .ok (.iload_n 2, 1) := by decide +kernel
theorem dX8_remove_22 : decode cX8_remove 22 = .ok (.iconst 0, 1) := by decide +kernel
theorem dX8_remove_23 : decode cX8_remove 23 = .ok (.invokevirtual 62, 3) := by decide +kernel
theorem dX8_remove_26 : decode cX8_remove 26 = .ok (.iinc 2 1, 3) := by decide +kernel
theorem dX8_remove_29 : decode cX8_remove 29 = .ok (.goto (-27), 3) := by decide +kernel
theorem dX8_remove_32 : decode cX8_remove 32 = .ok (.aload_n 0, 1) := by decide +kernel
theorem dX8_remove_33 : decode cX8_remove 33 = .ok (.iload_n 1, 1) := by decide +kernel
theorem dX8_remove_34 : decode cX8_remove 34 = .ok (.iconst 1, 1) := by decide +kernel
theorem dX8_remove_35 : decode cX8_remove 35 = .ok (.iadd, 1) := by decide +kernel
theorem dX8_remove_36 : decode cX8_remove 36 = .ok (.iload_n 1, 1) := by decide +kernel
theorem dX8_remove_37 : decode cX8_remove 37 = .ok (.aload_n 0, 1) := by decide +kernel
theorem dX8_remove_38 : decode cX8_remove 38 = .ok (.getfield 19, 3) := by decide +kernel
theorem dX8_remove_41 : decode cX8_remove 41 = .ok (.iload_n 1, 1) := by decide +kernel
theorem dX8_remove_42 : decode cX8_remove 42 = .ok (.isub, 1) := by decide +kernel
theorem dX8_remove_43 : decode cX8_remove 43 = .ok (.iconst 1, 1) := by decide +kernel
theorem dX8_remove_44 : decode cX8_remove 44 = .ok (.isub, 1) := by decide +kernel
theorem dX8_remove_45 : decode cX8_remove 45 = .ok (.invokevirtual 55, 3) := by decide +kernel
theorem dX8_remove_48 : decode cX8_remove 48 = .ok (.aload_n 0, 1) := by decide +kernel
theorem dX8_remove_49 : decode cX8_remove 49 = .ok (.dup, 1) := by decide +kernel
theorem dX8_remove_50 : decode cX8_remove 50 = .ok (.getfield 19, 3) := by decide +kernel
theorem dX8_remove_53 : decode cX8_remove 53 = .ok (.iconst 1, 1) := by decide +kernel
theorem dX8_remove_54 : decode cX8_remove 54 = .ok (.isub, 1) := by decide +kernel
theorem dX8_remove_55 : decode cX8_remove 55 = .ok (.putfield 19, 3) := by decide +kernel
theorem dX8_remove_58 : decode cX8_remove 58 = .ok (.return_, 1) := by decide +kernel
theorem dX8_shift_0 : decode cX8_shift 0 = .ok (.aload_n 0, 1) := by decide +kernel
theorem dX8_shift_1 : decode cX8_shift 1 = .ok (.getfield 9, 3) := by decide +kernel
theorem dX8_shift_4 : decode cX8_shift 4 = .ok (.iload_n 1, 1) := by decide +kernel
theorem dX8_shift_5 : decode cX8_shift 5 = .ok (.aload_n 0, 1) := by decide +kernel
theorem dX8_shift_6 : decode cX8_shift 6 = .ok (.getfield 9, 3) := by decide +kernel
theorem dX8_shift_9 : decode cX8_shift 9 = .ok (.iload_n 2, 1) := by decide +kernel
theorem dX8_shift_10 : decode cX8_shift 10 = .ok (.iload_n 3, 1) := by decide +kernel
theorem dX8_shift_11 : decode cX8_shift 11 = .ok (.invokestatic 37, 3) := by decide +kernel
theorem dX8_shift_14 : decode cX8_shift 14 = .ok (.aload_n 0, 1) := by decide +kernel
theorem dX8_shift_15 : decode cX8_shift 15 = .ok (.getfield 13, 3) := by decide +kernel
theorem dX8_shift_18 : decode cX8_shift 18 = .ok (.iload_n 1, 1) := by decide +kernel
theorem dX8_shift_19 : decode cX8_shift 19 = .ok (.aload_n 0, 1) := by decide +kernel
theorem dX8_shift_20 : decode cX8_shift 20 = .ok (.getfield 13, 3) := by decide +kernel
theorem dX8_shift_23 : decode cX8_shift 23 = .ok (.iload_n 2, 1) := by decide +kernel
theorem dX8_shift_24 : decode cX8_shift 24 = .ok (.iload_n 3, 1) := by decide +kernel
theorem dX8_shift_25 : decode cX8_shift 25 = .ok (.invokestatic 37, 3) := by decide +kernel
theorem dX8_shift_28 : decode cX8_shift 28 = .ok (.aload_n 0, 1) := by decide +kernel
theorem dX8_shift_29 : decode cX8_shift 29 = .ok (.getfield 16, 3) := by decide +kernel
theorem dX8_shift_32 : decode cX8_shift 32 = .ok (.iconst 4, 1) := by decide +kernel
theorem dX8_shift_33 : decode cX8_shift 33 = .ok (.iload_n 1, 1) := by decide +kernel
theorem dX8_shift_34 : decode cX8_shift 34 = .ok (.imul, 1) := by decide +kernel
theorem dX8_shift_35 : decode cX8_shift 35 = .ok (.aload_n 0, 1) := by decide +kernel
theorem dX8_shift_36 : decode cX8_shift 36 = .ok (.getfield 16, 3) := by decide +kernel
theorem dX8_shift_39 : decode cX8_shift 39 = .ok (.iconst 4, 1) := by decide +kernel
theorem dX8_shift_40 : decode cX8_shift 40 = .ok (.iload_n 2, 1) := by decide +kernel
theorem dX8_shift_41 : decode cX8_shift 41 = .ok (.imul, 1) := by decide +kernel
theorem dX8_shift_42 : decode cX8_shift 42 = .ok (.iconst 4, 1) := by decide +kernel
theorem dX8_shift_43 : decode cX8_shift 43 = .ok (.iload_n 3, 1) := by decide +kernel
theorem dX8_shift_44 : decode cX8_shift 44 = .ok (.imul, 1) := by decide +kernel
theorem dX8_shift_45 : decode cX8_shift 45 = .ok (.invokestatic 37, 3) := by decide +kernel
theorem dX8_shift_48 : decode cX8_shift 48 = .ok (.return_, 1) := by decide +kernel
theorem dX8_join_0 : decode cX8_join 0 = .ok (.aload_n 0, 1) := by decide +kernel
theorem dX8_join_1 : decode cX8_join 1 = .ok (.getfield 16, 3) := by decide +kernel
theorem dX8_join_4 : decode cX8_join 4 = .ok (.iconst 4, 1) := by decide +kernel
theorem dX8_join_5 : decode cX8_join 5 = .ok (.iload_n 1, 1) := by decide +kernel
theorem dX8_join_6 : decode cX8_join 6 = .ok (.imul, 1) := by decide +kernel
theorem dX8_join_7 : decode cX8_join 7 = .ok (.iload_n 3, 1) := by decide +kernel
theorem dX8_join_8 : decode cX8_join 8 = .ok (.iadd, 1) := by decide +kernel
theorem dX8_join_9 : decode cX8_join 9 = .ok (.iload 4, 2) := by decide +kernel
theorem dX8_join_11 : decode cX8_join 11 = .ok (.iastore, 1) := by decide +kernel
theorem dX8_join_12 : decode cX8_join 12 = .ok (.aload_n 0, 1) := by decide +kernel
theorem dX8_join_13 : decode cX8_join 13 = .ok (.getfield 16, 3) := by decide +kernel
theorem dX8_join_16 : decode cX8_join 16 = .ok (.iconst 4, 1) := by decide +kernel
theorem dX8_join_17 : decode cX8_join 17 = .ok (.iload_n 2, 1) := by decide +kernel
theorem dX8_join_18 : decode cX8_join 18 = .ok (.imul, 1) := by decide +kernel
theorem dX8_join_19 : decode cX8_join 19 = .ok (.iload_n 3, 1) := by decide +kernel
theorem dX8_join_20 : decode cX8_join 20 = .ok (.iconst 2, 1) := by decide +kernel
theorem dX8_join_21 : decode cX8_join 21 = .ok (.iadd, 1) := by decide +kernel
theorem dX8_join_22 : decode cX8_join 22 = .ok (.iconst 3, 1) := by decide +kernel
theorem dX8_join_23 : decode cX8_join 23 = .ok (.iand, 1) := by decide +kernel
theorem dX8_join_24 : decode cX8_join 24 = .ok (.iadd, 1) := by decide +kernel
theorem dX8_join_25 : decode cX8_join 25 = .ok (.iload 4, 2) := by decide +kernel
theorem dX8_join_27 : decode cX8_join 27 = .ok (.iastore, 1) := by decide +kernel
theorem dX8_join_28 : decode cX8_join 28 = .ok (.return_, 1) := by decide +kernel
theorem dX8_becomeTurned_0 : decode cX8_becomeTurned 0 = .ok (.aload_n 0, 1) := by decide +kernel
theorem dX8_becomeTurned_1 : decode cX8_becomeTurned 1 = .ok (.iconst 0, 1) := by decide +kernel
theorem dX8_becomeTurned_2 : decode cX8_becomeTurned 2 = .ok (.putfield 19, 3) := by decide +kernel
theorem dX8_becomeTurned_5 : decode cX8_becomeTurned 5 = .ok (.iconst 0, 1) := by decide +kernel
theorem dX8_becomeTurned_6 : decode cX8_becomeTurned 6 = .ok (.istore 4, 2) := by decide +kernel
theorem dX8_becomeTurned_8 : decode cX8_becomeTurned 8 = .ok (.iload 4, 2) := by decide +kernel
theorem dX8_becomeTurned_10 : decode cX8_becomeTurned 10 = .ok (.aload_n 1, 1) := by decide +kernel
theorem dX8_becomeTurned_11 : decode cX8_becomeTurned 11 = .ok (.getfield 19, 3) := by decide +kernel
theorem dX8_becomeTurned_14 : decode cX8_becomeTurned 14 = .ok (.if_icmp .ge 73, 3) := by decide +kernel
theorem dX8_becomeTurned_17 : decode cX8_becomeTurned 17 = .ok (.aload_n 0, 1) := by decide +kernel
theorem dX8_becomeTurned_18 : decode cX8_becomeTurned 18 = .ok (.aload_n 1, 1) := by decide +kernel
theorem dX8_becomeTurned_19 : decode cX8_becomeTurned 19 = .ok (.iload 4, 2) := by decide +kernel
theorem dX8_becomeTurned_21 : decode cX8_becomeTurned 21 = .ok (.iload_n 2, 1) := by decide +kernel
theorem dX8_becomeTurned_22 : decode cX8_becomeTurned 22 = .ok (.iload_n 3, 1) := by decide +kernel
theorem dX8_becomeTurned_23 : decode cX8_becomeTurned 23 = .ok (.invokevirtual 66, 3) := by decide +kernel
theorem dX8_becomeTurned_26 : decode cX8_becomeTurned 26 = .ok (.aload_n 1, 1) := by decide +kernel
theorem dX8_becomeTurned_27 : decode cX8_becomeTurned 27 = .ok (.iload 4, 2) := by decide +kernel
theorem dX8_becomeTurned_29 : decode cX8_becomeTurned 29 = .ok (.iload_n 2, 1) := by decide +kernel
theorem dX8_becomeTurned_30 : decode cX8_becomeTurned 30 = .ok (.iload_n 3, 1) := by decide +kernel
theorem dX8_becomeTurned_31 : decode cX8_becomeTurned 31 = .ok (.invokevirtual 70, 3) := by decide +kernel
theorem dX8_becomeTurned_34 : decode cX8_becomeTurned 34 = .ok (.invokevirtual 73, 3) := by decide +kernel
theorem dX8_becomeTurned_37 : decode cX8_becomeTurned 37 = .ok (.istore 5, 2) := by decide +kernel
theorem dX8_becomeTurned_39 : decode cX8_becomeTurned 39 = .ok (.iconst 0, 1) := by decide +kernel
theorem dX8_becomeTurned_40 : decode cX8_becomeTurned 40 = .ok (.istore 6, 2) := by decide +kernel
theorem dX8_becomeTurned_42 : decode cX8_becomeTurned 42 = .ok (.iload 5, 2) := by decide +kernel
theorem dX8_becomeTurned_44 : decode cX8_becomeTurned 44 = .ok (.ifCond .lt 37, 3) := by decide +kernel
theorem dX8_becomeTurned_47 : decode cX8_becomeTurned 47 = .ok (.iload 6, 2) := by decide +kernel
theorem dX8_becomeTurned_49 : decode cX8_becomeTurned 49 = .ok (.iconst 4, 1) := by decide +kernel
theorem dX8_becomeTurned_50 : decode cX8_becomeTurned 50 = .ok (.if_icmp .ge 31, 3) := by decide +kernel
theorem dX8_becomeTurned_53 : decode cX8_becomeTurned 53 = .ok (.aload_n 0, 1) := by decide +kernel
theorem dX8_becomeTurned_54 : decode cX8_becomeTurned 54 = .ok (.getfield 16, 3) := by decide +kernel
theorem dX8_becomeTurned_57 : decode cX8_becomeTurned 57 = .ok (.iconst 4, 1) := by decide +kernel
theorem dX8_becomeTurned_58 : decode cX8_becomeTurned 58 = .ok (.iload 5, 2) := by decide +kernel
theorem dX8_becomeTurned_60 : decode cX8_becomeTurned 60 = .ok (.imul, 1) := by decide +kernel
theorem dX8_becomeTurned_61 : decode cX8_becomeTurned 61 = .ok (.iload 6, 2) := by decide +kernel
theorem dX8_becomeTurned_63 : decode cX8_becomeTurned 63 = .ok (.iadd, 1) := by decide +kernel
theorem dX8_becomeTurned_64 : decode cX8_becomeTurned 64 = .ok (.aload_n 1, 1) := by decide +kernel
theorem dX8_becomeTurned_65 : decode cX8_becomeTurned 65 = .ok (.iload 4, 2) := by decide +kernel
theorem dX8_becomeTurned_67 : decode cX8_becomeTurned 67 = .ok (.iload 6, 2) := by decide +kernel
theorem dX8_becomeTurned_69 : decode cX8_becomeTurned 69 = .ok (.iload_n 2, 1) := by decide +kernel
theorem dX8_becomeTurned_70 : decode cX8_becomeTurned 70 = .ok (.iload_n 3, 1) := by decide +kernel
theorem dX8_becomeTurned_71 : decode cX8_becomeTurned 71 = .ok (.invokevirtual 76, 3) := by decide +kernel
theorem dX8_becomeTurned_74 : decode cX8_becomeTurned 74 = .ok (.iastore, 1) := by decide +kernel
theorem dX8_becomeTurned_75 : decode cX8_becomeTurned 75 = .ok (.iinc 6 1, 3) := by decide +kernel
theorem dX8_becomeTurned_78 : decode cX8_becomeTurned 78 = .ok (.goto (-36), 3) := by decide +kernel
theorem dX8_becomeTurned_81 : decode cX8_becomeTurned 81 = .ok (.iinc 4 1, 3) := by decide +kernel
theorem dX8_becomeTurned_84 : decode cX8_becomeTurned 84 = .ok (.goto (-76), 3) := by decide +kernel
theorem dX8_becomeTurned_87 : decode cX8_becomeTurned 87 = .ok (.return_, 1) := by decide +kernel
theorem dX8_turnedX_0 : decode cX8_turnedX 0 = .ok (.iload_n 3, 1) := by decide +kernel
theorem dX8_turnedX_1 : decode cX8_turnedX 1 = .ok (.ifCond .eq 13, 3) := by decide +kernel
theorem dX8_turnedX_4 : decode cX8_turnedX 4 = .ok (.aload_n 0, 1) := by decide +kernel
theorem dX8_turnedX_5 : decode cX8_turnedX 5 = .ok (.getfield 9, 3) := by decide +kernel
theorem dX8_turnedX_8 : decode cX8_turnedX 8 = .ok (.iload_n 1, 1) := by decide +kernel
theorem dX8_turnedX_9 : decode cX8_turnedX 9 = .ok (.iaload, 1) := by decide +kernel
theorem dX8_turnedX_10 : decode cX8_turnedX 10 = .ok (.ineg, 1) := by decide +kernel
theorem dX8_turnedX_11 : decode cX8_turnedX 11 = .ok (.goto 9, 3) := by decide +kernel
theorem dX8_turnedX_14 : decode cX8_turnedX 14 = .ok (.aload_n 0, 1) := by decide +kernel
theorem dX8_turnedX_15 : decode cX8_turnedX 15 = .ok (.getfield 9, 3) := by decide +kernel
theorem dX8_turnedX_18 : decode cX8_turnedX 18 = .ok (.iload_n 1, 1) := by decide +kernel
theorem dX8_turnedX_19 : decode cX8_turnedX 19 = .ok (.iaload, 1) := by decide +kernel
theorem dX8_turnedX_20 : decode cX8_turnedX 20 = .ok (.istore 4, 2) := by decide +kernel
theorem dX8_turnedX_22 : decode cX8_turnedX 22 = .ok (.iload 4, 2) := by decide +kernel
theorem dX8_turnedX_24 : decode cX8_turnedX 24 = .ok (.iload_n 2, 1) := by decide +kernel
theorem dX8_turnedX_25 : decode cX8_turnedX 25 = .ok (.invokestatic 46, 3) := by decide +kernel
theorem dX8_turnedX_28 : decode cX8_turnedX 28 = .ok (.imul, 1) := by decide +kernel
theorem dX8_turnedX_29 : decode cX8_turnedX 29 = .ok (.aload_n 0, 1) := by decide +kernel
theorem dX8_turnedX_30 : decode cX8_turnedX 30 = .ok (.getfield 13, 3) := by decide +kernel
theorem dX8_turnedX_33 : decode cX8_turnedX 33 = .ok (.iload_n 1, 1) := by decide +kernel
theorem dX8_turnedX_34 : decode cX8_turnedX 34 = .ok (.iaload, 1) := by decide +kernel
theorem dX8_turnedX_35 : decode cX8_turnedX 35 = .ok (.iload_n 2, 1) := by decide +kernel
theorem dX8_turnedX_36 : decode cX8_turnedX 36 = .ok (.invokestatic 49, 3) := by decide +kernel
theorem dX8_turnedX_39 : decode cX8_turnedX 39 = .ok (.imul, 1) := by decide +kernel
theorem dX8_turnedX_40 : decode cX8_turnedX 40 = .ok (.isub, 1) := by decide +kernel
theorem dX8_turnedX_41 : decode cX8_turnedX 41 = .ok (.ireturn, 1) := by decide +kernel
theorem dX8_turnedY_0 : decode cX8_turnedY 0 = .ok (.iload_n 3, 1) := by decide +kernel
theorem dX8_turnedY_1 : decode cX8_turnedY 1 = .ok (.ifCond .eq 13, 3) := by decide +kernel
theorem dX8_turnedY_4 : decode cX8_turnedY 4 = .ok (.aload_n 0, 1) := by decide +kernel
theorem dX8_turnedY_5 : decode cX8_turnedY 5 = .ok (.getfield 9, 3) := by decide +kernel
theorem dX8_turnedY_8 : decode cX8_turnedY 8 = .ok (.iload_n 1, 1) := by decide +kernel
theorem dX8_turnedY_9 : decode cX8_turnedY 9 = .ok (.iaload, 1) := by decide +kernel
theorem dX8_turnedY_10 : decode cX8_turnedY 10 = .ok (.ineg, 1) := by decide +kernel
theorem dX8_turnedY_11 : decode cX8_turnedY 11 = .ok (.goto 9, 3) := by decide +kernel
theorem dX8_turnedY_14 : decode cX8_turnedY 14 = .ok (.aload_n 0, 1) := by decide +kernel
theorem dX8_turnedY_15 : decode cX8_turnedY 15 = .ok (.getfield 9, 3) := by decide +kernel
theorem dX8_turnedY_18 : decode cX8_turnedY 18 = .ok (.iload_n 1, 1) := by decide +kernel
theorem dX8_turnedY_19 : decode cX8_turnedY 19 = .ok (.iaload, 1) := by decide +kernel
theorem dX8_turnedY_20 : decode cX8_turnedY 20 = .ok (.istore 4, 2) := by decide +kernel
theorem dX8_turnedY_22 : decode cX8_turnedY 22 = .ok (.iload 4, 2) := by decide +kernel
theorem dX8_turnedY_24 : decode cX8_turnedY 24 = .ok (.iload_n 2, 1) := by decide +kernel
theorem dX8_turnedY_25 : decode cX8_turnedY 25 = .ok (.invokestatic 49, 3) := by decide +kernel
theorem dX8_turnedY_28 : decode cX8_turnedY 28 = .ok (.imul, 1) := by decide +kernel
theorem dX8_turnedY_29 : decode cX8_turnedY 29 = .ok (.aload_n 0, 1) := by decide +kernel
theorem dX8_turnedY_30 : decode cX8_turnedY 30 = .ok (.getfield 13, 3) := by decide +kernel
theorem dX8_turnedY_33 : decode cX8_turnedY 33 = .ok (.iload_n 1, 1) := by decide +kernel
theorem dX8_turnedY_34 : decode cX8_turnedY 34 = .ok (.iaload, 1) := by decide +kernel
theorem dX8_turnedY_35 : decode cX8_turnedY 35 = .ok (.iload_n 2, 1) := by decide +kernel
theorem dX8_turnedY_36 : decode cX8_turnedY 36 = .ok (.invokestatic 46, 3) := by decide +kernel
theorem dX8_turnedY_39 : decode cX8_turnedY 39 = .ok (.imul, 1) := by decide +kernel
theorem dX8_turnedY_40 : decode cX8_turnedY 40 = .ok (.iadd, 1) := by decide +kernel
theorem dX8_turnedY_41 : decode cX8_turnedY 41 = .ok (.ireturn, 1) := by decide +kernel
theorem dX8_turnedCrease_0 : decode cX8_turnedCrease 0 = .ok (.iload_n 2, 1) := by decide +kernel
theorem dX8_turnedCrease_1 : decode cX8_turnedCrease 1 = .ok (.iload_n 3, 1) := by decide +kernel
theorem dX8_turnedCrease_2 : decode cX8_turnedCrease 2 = .ok (.isub, 1) := by decide +kernel
theorem dX8_turnedCrease_3 : decode cX8_turnedCrease 3 = .ok (.iconst 3, 1) := by decide +kernel
theorem dX8_turnedCrease_4 : decode cX8_turnedCrease 4 = .ok (.iand, 1) := by decide +kernel
theorem dX8_turnedCrease_5 : decode cX8_turnedCrease 5 = .ok (.istore 5, 2) := by decide +kernel
theorem dX8_turnedCrease_7 : decode cX8_turnedCrease 7 = .ok (.aload_n 0, 1) := by decide +kernel
theorem dX8_turnedCrease_8 : decode cX8_turnedCrease 8 = .ok (.getfield 16, 3) := by decide +kernel
theorem dX8_turnedCrease_11 : decode cX8_turnedCrease 11 = .ok (.iconst 4, 1) := by decide +kernel
theorem dX8_turnedCrease_12 : decode cX8_turnedCrease 12 = .ok (.iload_n 1, 1) := by decide +kernel
theorem dX8_turnedCrease_13 : decode cX8_turnedCrease 13 = .ok (.imul, 1) := by decide +kernel
theorem dX8_turnedCrease_14 : decode cX8_turnedCrease 14 = .ok (.iload 4, 2) := by decide +kernel
theorem dX8_turnedCrease_16 : decode cX8_turnedCrease 16 = .ok (.ifCond .eq 11, 3) := by decide +kernel
theorem dX8_turnedCrease_19 : decode cX8_turnedCrease 19 = .ok (.iload 5, 2) := by decide +kernel
theorem dX8_turnedCrease_21 : decode cX8_turnedCrease 21 = .ok (.invokestatic 80, 3) := by decide +kernel
theorem dX8_turnedCrease_24 : decode cX8_turnedCrease 24 = .ok (.goto 5, 3) := by decide +kernel
theorem dX8_turnedCrease_27 : decode cX8_turnedCrease 27 = .ok (.iload 5, 2) := by decide +kernel
theorem dX8_turnedCrease_29 : decode cX8_turnedCrease 29 = .ok (.iadd, 1) := by decide +kernel
theorem dX8_turnedCrease_30 : decode cX8_turnedCrease 30 = .ok (.iaload, 1) := by decide +kernel
theorem dX8_turnedCrease_31 : decode cX8_turnedCrease 31 = .ok (.ireturn, 1) := by decide +kernel
theorem dX9_init_0 : decode cX9_init 0 = .ok (.aload_n 0, 1) := by decide +kernel
theorem dX9_init_1 : decode cX9_init 1 = .ok (.invokespecial 1, 3) := by decide +kernel
theorem dX9_init_4 : decode cX9_init 4 = .ok (.aload_n 0, 1) := by decide +kernel
theorem dX9_init_5 : decode cX9_init 5 = .ok (.sipush 240, 3) := by decide +kernel
theorem dX9_init_8 : decode cX9_init 8 = .ok (.newarray .int, 2) := by decide +kernel
theorem dX9_init_10 : decode cX9_init 10 = .ok (.putfield 9, 3) := by decide +kernel
theorem dX9_init_13 : decode cX9_init 13 = .ok (.aload_n 0, 1) := by decide +kernel
theorem dX9_init_14 : decode cX9_init 14 = .ok (.sipush 240, 3) := by decide +kernel
theorem dX9_init_17 : decode cX9_init 17 = .ok (.newarray .int, 2) := by decide +kernel
theorem dX9_init_19 : decode cX9_init 19 = .ok (.putfield 13, 3) := by decide +kernel
theorem dX9_init_22 : decode cX9_init 22 = .ok (.aload_n 0, 1) := by decide +kernel
theorem dX9_init_23 : decode cX9_init 23 = .ok (.sipush 384, 3) := by decide +kernel
theorem dX9_init_26 : decode cX9_init 26 = .ok (.newarray .int, 2) := by decide +kernel
theorem dX9_init_28 : decode cX9_init 28 = .ok (.putfield 18, 3) := by decide +kernel
theorem dX9_init_31 : decode cX9_init 31 = .ok (.aload_n 0, 1) := by decide +kernel
theorem dX9_init_32 : decode cX9_init 32 = .ok (.sipush 960, 3) := by decide +kernel
theorem dX9_init_35 : decode cX9_init 35 = .ok (.newarray .int, 2) := by decide +kernel
theorem dX9_init_37 : decode cX9_init 37 = .ok (.putfield 21, 3) := by decide +kernel
theorem dX9_init_40 : decode cX9_init 40 = .ok (.aload_n 0, 1) := by decide +kernel
theorem dX9_init_41 : decode cX9_init 41 = .ok (.sipush 960, 3) := by decide +kernel
theorem dX9_init_44 : decode cX9_init 44 = .ok (.newarray .int, 2) := by decide +kernel
theorem dX9_init_46 : decode cX9_init 46 = .ok (.putfield 24, 3) := by decide +kernel
theorem dX9_init_49 : decode cX9_init 49 = .ok (.aload_n 0, 1) := by decide +kernel
theorem dX9_init_50 : decode cX9_init 50 = .ok (.lconst 0, 1) := by decide +kernel
theorem dX9_init_51 : decode cX9_init 51 = .ok (.putfield 27, 3) := by decide +kernel
theorem dX9_init_54 : decode cX9_init 54 = .ok (.aload_n 0, 1) := by decide +kernel
theorem dX9_init_55 : decode cX9_init 55 = .ok (.iconst 0, 1) := by decide +kernel
theorem dX9_init_56 : decode cX9_init 56 = .ok (.putfield 31, 3) := by decide +kernel
theorem dX9_init_59 : decode cX9_init 59 = .ok (.aload_n 0, 1) := by decide +kernel
theorem dX9_init_60 : decode cX9_init 60 = .ok (.aload_n 0, 1) := by decide +kernel
theorem dX9_init_61 : decode cX9_init 61 = .ok (.getfield 27, 3) := by decide +kernel
theorem dX9_init_64 : decode cX9_init 64 = .ok (.invokestatic 35, 3) := by decide +kernel
theorem dX9_init_67 : decode cX9_init 67 = .ok (.putfield 39, 3) := by decide +kernel
theorem dX9_init_70 : decode cX9_init 70 = .ok (.return_, 1) := by decide +kernel
theorem dX9_take_0 : decode cX9_take 0 = .ok (.aload_n 1, 1) := by decide +kernel
theorem dX9_take_1 : decode cX9_take 1 = .ok (.invokevirtual 42, 3) := by decide +kernel
theorem dX9_take_4 : decode cX9_take 4 = .ok (.aload_n 0, 1) := by decide +kernel
theorem dX9_take_5 : decode cX9_take 5 = .ok (.getfield 27, 3) := by decide +kernel
theorem dX9_take_8 : decode cX9_take 8 = .ok (.lcmp, 1) := by decide +kernel
theorem dX9_take_9 : decode cX9_take 9 = .ok (.ifCond .ne 4, 3) := by decide +kernel
theorem dX9_take_12 : decode cX9_take 12 = .ok (.return_, 1) := by decide +kernel
theorem dX9_take_13 : decode cX9_take 13 = .ok (.aload_n 0, 1) := by decide +kernel
theorem dX9_take_14 : decode cX9_take 14 = .ok (.aload_n 1, 1) := by decide +kernel
theorem dX9_take_15 : decode cX9_take 15 = .ok (.invokevirtual 42, 3) := by decide +kernel
theorem dX9_take_18 : decode cX9_take 18 = .ok (.putfield 27, 3) := by decide +kernel
theorem dX9_take_21 : decode cX9_take 21 = .ok (.aload_n 0, 1) := by decide +kernel
theorem dX9_take_22 : decode cX9_take 22 = .ok (.aload_n 0, 1) := by decide +kernel
theorem dX9_take_23 : decode cX9_take 23 = .ok (.getfield 27, 3) := by decide +kernel
theorem dX9_take_26 : decode cX9_take 26 = .ok (.invokestatic 35, 3) := by decide +kernel
theorem dX9_take_29 : decode cX9_take 29 = .ok (.putfield 39, 3) := by decide +kernel
theorem dX9_take_32 : decode cX9_take 32 = .ok (.aload_n 0, 1) := by decide +kernel
theorem dX9_take_33 : decode cX9_take 33 = .ok (.invokevirtual 45, 3) := by decide +kernel
theorem dX9_take_36 : decode cX9_take 36 = .ok (.iconst 0, 1) := by decide +kernel
theorem dX9_take_37 : decode cX9_take 37 = .ok (.istore_n 2, 1) := by decide +kernel
theorem dX9_take_38 : decode cX9_take 38 = .ok (.iload_n 2, 1) := by decide +kernel
theorem dX9_take_39 : decode cX9_take 39 = .ok (.aload_n 0, 1) := by decide +kernel
theorem dX9_take_40 : decode cX9_take 40 = .ok (.getfield 31, 3) := by decide +kernel
theorem dX9_take_43 : decode cX9_take 43 = .ok (.if_icmp .ge 28, 3) := by decide +kernel
theorem dX9_take_46 : decode cX9_take 46 = .ok (.iconst 0, 1) := by decide +kernel
theorem dX9_take_47 : decode cX9_take 47 = .ok (.istore_n 3, 1) := by decide +kernel
theorem dX9_take_48 : decode cX9_take 48 = .ok (.iload_n 3, 1) := by decide +kernel
theorem dX9_take_49 : decode cX9_take 49 = .ok (.iconst 4, 1) := by decide +kernel
theorem dX9_take_50 : decode cX9_take 50 = .ok (.if_icmp .ge 15, 3) := by decide +kernel
theorem dX9_take_53 : decode cX9_take 53 = .ok (.aload_n 0, 1) := by decide +kernel
theorem dX9_take_54 : decode cX9_take 54 = .ok (.iload_n 2, 1) := by decide +kernel
theorem dX9_take_55 : decode cX9_take 55 = .ok (.iload_n 3, 1) := by decide +kernel
theorem dX9_take_56 : decode cX9_take 56 = .ok (.invokevirtual 48, 3) := by decide +kernel
theorem dX9_take_59 : decode cX9_take 59 = .ok (.iinc 3 1, 3) := by decide +kernel
theorem dX9_take_62 : decode cX9_take 62 = .ok (.goto (-14), 3) := by decide +kernel
theorem dX9_take_65 : decode cX9_take 65 = .ok (.iinc 2 1, 3) := by decide +kernel
theorem dX9_take_68 : decode cX9_take 68 = .ok (.goto (-30), 3) := by decide +kernel
theorem dX9_take_71 : decode cX9_take 71 = .ok (.return_, 1) := by decide +kernel
theorem dX9_fault_0 : decode cX9_fault 0 = .ok (.aload_n 0, 1) := by decide +kernel
theorem dX9_fault_1 : decode cX9_fault 1 = .ok (.getfield 39, 3) := by decide +kernel
theorem dX9_fault_4 : decode cX9_fault 4 = .ok (.ireturn, 1) := by decide +kernel
theorem dX9_size_0 : decode cX9_size 0 = .ok (.aload_n 0, 1) := by decide +kernel
theorem dX9_size_1 : decode cX9_size 1 = .ok (.getfield 31, 3) := by decide +kernel
theorem dX9_size_4 : decode cX9_size 4 = .ok (.ireturn, 1) := by decide +kernel
theorem dX9_placeOf_0 : decode cX9_placeOf 0 = .ok (.aload_n 0, 1) := by decide +kernel
theorem dX9_placeOf_1 : decode cX9_placeOf 1 = .ok (.getfield 9, 3) := by decide +kernel
theorem dX9_placeOf_4 : decode cX9_placeOf 4 = .ok (.iload_n 1, 1) := by decide +kernel
theorem dX9_placeOf_5 : decode cX9_placeOf 5 = .ok (.iaload, 1) := by decide +kernel
theorem dX9_placeOf_6 : decode cX9_placeOf 6 = .ok (.ireturn, 1) := by decide +kernel
theorem dX9_directionOf_0 : decode cX9_directionOf 0 = .ok (.aload_n 0, 1) := by decide +kernel
theorem dX9_directionOf_1 : decode cX9_directionOf 1 = .ok (.getfield 13, 3) := by decide +kernel
theorem dX9_directionOf_4 : decode cX9_directionOf 4 = .ok (.iload_n 1, 1) := by decide +kernel
theorem dX9_directionOf_5 : decode cX9_directionOf 5 = .ok (.iaload, 1) := by decide +kernel
theorem dX9_directionOf_6 : decode cX9_directionOf 6 = .ok (.ireturn, 1) := by decide +kernel
theorem dX9_squareAcross_0 : decode cX9_squareAcross 0 = .ok (.aload_n 0, 1) := by decide +kernel
theorem dX9_squareAcross_1 : decode cX9_squareAcross 1 = .ok (.getfield 21, 3) := by decide +kernel
theorem dX9_squareAcross_4 : decode cX9_squareAcross 4 = .ok (.iconst 4, 1) := by decide +kernel
theorem dX9_squareAcross_5 : decode cX9_squareAcross 5 = .ok (.iload_n 1, 1) := by decide +kernel
theorem dX9_squareAcross_6 : decode cX9_squareAcross 6 = .ok (.imul, 1) := by decide +kernel
theorem dX9_squareAcross_7 : decode cX9_squareAcross 7 = .ok (.iload_n 2, 1) := by decide +kernel
theorem dX9_squareAcross_8 : decode cX9_squareAcross 8 = .ok (.iadd, 1) := by decide +kernel
theorem dX9_squareAcross_9 : decode cX9_squareAcross 9 = .ok (.iaload, 1) := by decide +kernel
theorem dX9_squareAcross_10 : decode cX9_squareAcross 10 = .ok (.iconst 2, 1) := by decide +kernel
theorem dX9_squareAcross_11 : decode cX9_squareAcross 11 = .ok (.ishr, 1) := by decide +kernel
theorem dX9_squareAcross_12 : decode cX9_squareAcross 12 = .ok (.ireturn, 1) := by decide +kernel
theorem dX9_sideAcross_0 : decode cX9_sideAcross 0 = .ok (.aload_n 0, 1) := by decide +kernel
theorem dX9_sideAcross_1 : decode cX9_sideAcross 1 = .ok (.getfield 21, 3) := by decide +kernel
theorem dX9_sideAcross_4 : decode cX9_sideAcross 4 = .ok (.iconst 4, 1) := by decide +kernel
theorem dX9_sideAcross_5 : decode cX9_sideAcross 5 = .ok (.iload_n 1, 1) := by decide +kernel
theorem dX9_sideAcross_6 : decode cX9_sideAcross 6 = .ok (.imul, 1) := by decide +kernel
theorem dX9_sideAcross_7 : decode cX9_sideAcross 7 = .ok (.iload_n 2, 1) := by decide +kernel
theorem dX9_sideAcross_8 : decode cX9_sideAcross 8 = .ok (.iadd, 1) := by decide +kernel
theorem dX9_sideAcross_9 : decode cX9_sideAcross 9 = .ok (.iaload, 1) := by decide +kernel
theorem dX9_sideAcross_10 : decode cX9_sideAcross 10 = .ok (.iconst 3, 1) := by decide +kernel
theorem dX9_sideAcross_11 : decode cX9_sideAcross 11 = .ok (.iand, 1) := by decide +kernel
theorem dX9_sideAcross_12 : decode cX9_sideAcross 12 = .ok (.ireturn, 1) := by decide +kernel
theorem dX9_bendAcross_0 : decode cX9_bendAcross 0 = .ok (.aload_n 0, 1) := by decide +kernel
theorem dX9_bendAcross_1 : decode cX9_bendAcross 1 = .ok (.getfield 24, 3) := by decide +kernel
theorem dX9_bendAcross_4 : decode cX9_bendAcross 4 = .ok (.iconst 4, 1) := by decide +kernel
theorem dX9_bendAcross_5 : decode cX9_bendAcross 5 = .ok (.iload_n 1, 1) := by decide +kernel
theorem dX9_bendAcross_6 : decode cX9_bendAcross 6 = .ok (.imul, 1) := by decide +kernel
theorem dX9_bendAcross_7 : decode cX9_bendAcross 7 = .ok (.iload_n 2, 1) := by decide +kernel
theorem dX9_bendAcross_8 : decode cX9_bendAcross 8 = .ok (.iadd, 1) := by decide +kernel
theorem dX9_bendAcross_9 : decode cX9_bendAcross 9 = .ok (.iaload, 1) := by decide +kernel
theorem dX9_bendAcross_10 : decode cX9_bendAcross 10 = .ok (.ireturn, 1) := by decide +kernel
theorem dX9_numberSquares_0 : decode cX9_numberSquares 0 = .ok (.aload_n 0, 1) := by decide +kernel
theorem dX9_numberSquares_1 : decode cX9_numberSquares 1 = .ok (.iconst 0, 1) := by decide +kernel
theorem dX9_numberSquares_2 : decode cX9_numberSquares 2 = .ok (.putfield 31, 3) := by decide +kernel
theorem dX9_numberSquares_5 : decode cX9_numberSquares 5 = .ok (.iconst 0, 1) := by decide +kernel
theorem dX9_numberSquares_6 : decode cX9_numberSquares 6 = .ok (.istore_n 1, 1) := by decide +kernel
theorem dX9_numberSquares_7 : decode cX9_numberSquares 7 = .ok (.iload_n 1, 1) := by decide +kernel
theorem dX9_numberSquares_8 : decode cX9_numberSquares 8 = .ok (.bipush 64, 2) := by decide +kernel
theorem dX9_numberSquares_10 : decode cX9_numberSquares 10 = .ok (.if_icmp .ge 114, 3) := by decide +kernel
theorem dX9_numberSquares_13 : decode cX9_numberSquares 13 = .ok (.iconst 0, 1) := by decide +kernel
theorem dX9_numberSquares_14 : decode cX9_numberSquares 14 = .ok (.istore_n 2, 1) := by decide +kernel
theorem dX9_numberSquares_15 : decode cX9_numberSquares 15 = .ok (.iload_n 2, 1) := by decide +kernel
theorem dX9_numberSquares_16 : decode cX9_numberSquares 16 = .ok (.bipush 6, 2) := by decide +kernel
theorem dX9_numberSquares_18 : decode cX9_numberSquares 18 = .ok (.if_icmp .ge 100, 3) := by decide +kernel
theorem dX9_numberSquares_21 : decode cX9_numberSquares 21 = .ok (.aload_n 0, 1) := by decide +kernel
theorem dX9_numberSquares_22 : decode cX9_numberSquares 22 = .ok (.getfield 27, 3) := by decide +kernel
theorem dX9_numberSquares_25 : decode cX9_numberSquares 25 = .ok (.iload_n 1, 1) := by decide +kernel
theorem dX9_numberSquares_26 : decode cX9_numberSquares 26 = .ok (.invokestatic 52, 3) := by decide +kernel
theorem dX9_numberSquares_29 : decode cX9_numberSquares 29 = .ok (.ifCond .eq 22, 3) := by decide +kernel
theorem dX9_numberSquares_32 : decode cX9_numberSquares 32 = .ok (.aload_n 0, 1) := by decide +kernel
theorem dX9_numberSquares_33 : decode cX9_numberSquares 33 = .ok (.getfield 27, 3) := by decide +kernel
theorem dX9_numberSquares_36 : decode cX9_numberSquares 36 = .ok (.iload_n 1, 1) := by decide +kernel
theorem dX9_numberSquares_37 : decode cX9_numberSquares 37 = .ok (.iload_n 2, 1) := by decide +kernel
theorem dX9_numberSquares_38 : decode cX9_numberSquares 38 = .ok (.invokestatic 56, 3) := by decide +kernel
theorem dX9_numberSquares_41 : decode cX9_numberSquares 41 = .ok (.invokestatic 52, 3) := by decide +kernel
theorem dX9_numberSquares_44 : decode cX9_numberSquares 44 = .ok (.ifCond .ne 7, 3) := by decide +kernel
theorem dX9_numberSquares_47 : decode cX9_numberSquares 47 = .ok (.iconst 1, 1) := by decide +kernel
theorem dX9_numberSquares_48 : decode cX9_numberSquares 48 = .ok (.goto 4, 3) := by decide +kernel
theorem dX9_numberSquares_51 : decode cX9_numberSquares 51 = .ok (.iconst 0, 1) := by decide +kernel
theorem dX9_numberSquares_52 : decode cX9_numberSquares 52 = .ok (.istore_n 3, 1) := by decide +kernel
theorem dX9_numberSquares_53 : decode cX9_numberSquares 53 = .ok (.iload_n 3, 1) := by decide +kernel
theorem dX9_numberSquares_54 : decode cX9_numberSquares 54 = .ok (.ifCond .eq 58, 3) := by decide +kernel
theorem dX9_numberSquares_57 : decode cX9_numberSquares 57 = .ok (.aload_n 0, 1) := by decide +kernel
theorem dX9_numberSquares_58 : decode cX9_numberSquares 58 = .ok (.getfield 31, 3) := by decide +kernel
theorem dX9_numberSquares_61 : decode cX9_numberSquares 61 = .ok (.sipush 240, 3) := by decide +kernel
theorem dX9_numberSquares_64 : decode cX9_numberSquares 64 = .ok (.if_icmp .ge 48, 3) := by decide +kernel
theorem dX9_numberSquares_67 : decode cX9_numberSquares 67 = .ok (.aload_n 0, 1) := by decide +kernel
theorem dX9_numberSquares_68 : decode cX9_numberSquares 68 = .ok (.getfield 18, 3) := by decide +kernel
theorem dX9_numberSquares_71 : decode cX9_numberSquares 71 = .ok (.bipush 6, 2) := by decide +kernel
theorem dX9_numberSquares_73 : decode cX9_numberSquares 73 = .ok (.iload_n 1, 1) := by decide +kernel
theorem dX9_numberSquares_74 : decode cX9_numberSquares 74 = .ok (.imul, 1) := by decide +kernel
theorem dX9_numberSquares_75 : decode cX9_numberSquares 75 = .ok (.iload_n 2, 1) := by decide +kernel
theorem dX9_numberSquares_76 : decode cX9_numberSquares 76 = .ok (.iadd, 1) := by decide +kernel
theorem dX9_numberSquares_77 : decode cX9_numberSquares 77 = .ok (.aload_n 0, 1) := by decide +kernel
theorem dX9_numberSquares_78 : decode cX9_numberSquares 78 = .ok (.getfield 31, 3) := by decide +kernel
theorem dX9_numberSquares_81 : decode cX9_numberSquares 81 = .ok (.iastore, 1) := by decide +kernel
theorem dX9_numberSquares_82 : decode cX9_numberSquares 82 = .ok (.aload_n 0, 1) := by decide +kernel
theorem dX9_numberSquares_83 : decode cX9_numberSquares 83 = .ok (.getfield 9, 3) := by decide +kernel
theorem dX9_numberSquares_86 : decode cX9_numberSquares 86 = .ok (.aload_n 0, 1) := by decide +kernel
theorem dX9_numberSquares_87 : decode cX9_numberSquares 87 = .ok (.getfield 31, 3) := by decide +kernel
theorem dX9_numberSquares_90 : decode cX9_numberSquares 90 = .ok (.iload_n 1, 1) := by decide +kernel
theorem dX9_numberSquares_91 : decode cX9_numberSquares 91 = .ok (.iastore, 1) := by decide +kernel
theorem dX9_numberSquares_92 : decode cX9_numberSquares 92 = .ok (.aload_n 0, 1) := by decide +kernel
theorem dX9_numberSquares_93 : decode cX9_numberSquares 93 = .ok (.getfield 13, 3) := by decide +kernel
theorem dX9_numberSquares_96 : decode cX9_numberSquares 96 = .ok (.aload_n 0, 1) := by decide +kernel
theorem dX9_numberSquares_97 : decode cX9_numberSquares 97 = .ok (.getfield 31, 3) := by decide +kernel
theorem dX9_numberSquares_100 : decode cX9_numberSquares 100 = .ok (.iload_n 2, 1) := by decide +kernel
theorem dX9_numberSquares_101 : decode cX9_numberSquares 101 = .ok (.iastore, 1) := by decide +kernel
theorem dX9_numberSquares_102 : decode cX9_numberSquares 102 = .ok (.aload_n 0, 1) := by decide +kernel
theorem dX9_numberSquares_103 : decode cX9_numberSquares 103 = .ok (.dup, 1) := by decide +kernel
theorem dX9_numberSquares_104 : decode cX9_numberSquares 104 = .ok (.getfield 31, 3) := by decide +kernel
theorem dX9_numberSquares_107 : decode cX9_numberSquares 107 = .ok (.iconst 1, 1) := by decide +kernel
theorem dX9_numberSquares_108 : decode cX9_numberSquares 108 = .ok (.iadd, 1) := by decide +kernel
theorem dX9_numberSquares_109 : decode cX9_numberSquares 109 = .ok (.putfield 31, 3) := by decide +kernel
theorem dX9_numberSquares_112 : decode cX9_numberSquares 112 = .ok (.iinc 2 1, 3) := by decide +kernel
theorem dX9_numberSquares_115 : decode cX9_numberSquares 115 = .ok (.goto (-100), 3) := by decide +kernel
theorem dX9_numberSquares_118 : decode cX9_numberSquares 118 = .ok (.iinc 1 1, 3) := by decide +kernel
theorem dX9_numberSquares_121 : decode cX9_numberSquares 121 = .ok (.goto (-114), 3) := by decide +kernel
theorem dX9_numberSquares_124 : decode cX9_numberSquares 124 = .ok (.return_, 1) := by decide +kernel
theorem dX9_lead_0 : decode cX9_lead 0 = .ok (.aload_n 0, 1) := by decide +kernel
theorem dX9_lead_1 : decode cX9_lead 1 = .ok (.getfield 9, 3) := by decide +kernel
theorem dX9_lead_4 : decode cX9_lead 4 = .ok (.iload_n 1, 1) := by decide +kernel
theorem dX9_lead_5 : decode cX9_lead 5 = .ok (.iaload, 1) := by decide +kernel
theorem dX9_lead_6 : decode cX9_lead 6 = .ok (.istore_n 3, 1) := by decide +kernel
theorem dX9_lead_7 : decode cX9_lead 7 = .ok (.aload_n 0, 1) := by decide +kernel
theorem dX9_lead_8 : decode cX9_lead 8 = .ok (.getfield 13, 3) := by decide +kernel
theorem dX9_lead_11 : decode cX9_lead 11 = .ok (.iload_n 1, 1) := by decide +kernel
theorem dX9_lead_12 : decode cX9_lead 12 = .ok (.iaload, 1) := by decide +kernel
theorem dX9_lead_13 : decode cX9_lead 13 = .ok (.istore 4, 2) := by decide +kernel
theorem dX9_lead_15 : decode cX9_lead 15 = .ok (.getstatic 60, 3) := by decide +kernel
theorem dX9_lead_18 : decode cX9_lead 18 = .ok (.iconst 4, 1) := by decide +kernel
theorem dX9_lead_19 : decode cX9_lead 19 = .ok (.iload 4, 2) := by decide +kernel
theorem dX9_lead_21 : decode cX9_lead 21 = .ok (.imul, 1) := by decide +kernel
theorem dX9_lead_22 : decode cX9_lead 22 = .ok (.iload_n 2, 1) := by decide +kernel
theorem dX9_lead_23 : decode cX9_lead 23 = .ok (.iadd, 1) := by decide +kernel
theorem dX9_lead_24 : decode cX9_lead 24 = .ok (.iaload, 1) := by decide +kernel
theorem dX9_lead_25 : decode cX9_lead 25 = .ok (.istore 5, 2) := by decide +kernel
theorem dX9_lead_27 : decode cX9_lead 27 = .ok (.iload_n 3, 1) := by decide +kernel
theorem dX9_lead_28 : decode cX9_lead 28 = .ok (.iload 5, 2) := by decide +kernel
theorem dX9_lead_30 : decode cX9_lead 30 = .ok (.invokestatic 56, 3) := by decide +kernel
theorem dX9_lead_33 : decode cX9_lead 33 = .ok (.istore 6, 2) := by decide +kernel
theorem dX9_lead_35 : decode cX9_lead 35 = .ok (.iload 6, 2) := by decide +kernel
theorem dX9_lead_37 : decode cX9_lead 37 = .ok (.iload 4, 2) := by decide +kernel
theorem dX9_lead_39 : decode cX9_lead 39 = .ok (.invokestatic 56, 3) := by decide +kernel
theorem dX9_lead_42 : decode cX9_lead 42 = .ok (.istore 7, 2) := by decide +kernel
theorem dX9_lead_44 : decode cX9_lead 44 = .ok (.aload_n 0, 1) := by decide +kernel
theorem dX9_lead_45 : decode cX9_lead 45 = .ok (.getfield 27, 3) := by decide +kernel
theorem dX9_lead_48 : decode cX9_lead 48 = .ok (.iload 7, 2) := by decide +kernel
theorem dX9_lead_50 : decode cX9_lead 50 = .ok (.invokestatic 52, 3) := by decide +kernel
theorem dX9_lead_53 : decode cX9_lead 53 = .ok (.ifCond .eq 25, 3) := by decide +kernel
theorem dX9_lead_56 : decode cX9_lead 56 = .ok (.aload_n 0, 1) := by decide +kernel
theorem dX9_lead_57 : decode cX9_lead 57 = .ok (.iload_n 1, 1) := by decide +kernel
theorem dX9_lead_58 : decode cX9_lead 58 = .ok (.iload_n 2, 1) := by decide +kernel
theorem dX9_lead_59 : decode cX9_lead 59 = .ok (.iconst (-1), 1) := by decide +kernel
theorem dX9_lead_60 : decode cX9_lead 60 = .ok (.iload 7, 2) := by decide +kernel
theorem dX9_lead_62 : decode cX9_lead 62 = .ok (.iload 5, 2) := by decide +kernel
theorem dX9_lead_64 : decode cX9_lead 64 = .ok (.invokestatic 63, 3) := by decide +kernel
theorem dX9_lead_67 : decode cX9_lead 67 = .ok (.iload 4, 2) := by decide +kernel
theorem dX9_lead_69 : decode cX9_lead 69 = .ok (.invokestatic 63, 3) := by decide +kernel
theorem dX9_lead_72 : decode cX9_lead 72 = .ok (.invokevirtual 67, 3) := by decide +kernel
theorem dX9_lead_75 : decode cX9_lead 75 = .ok (.goto 46, 3) := by decide +kernel
theorem dX9_lead_78 : decode cX9_lead 78 = .ok (.aload_n 0, 1) := by decide +kernel
theorem dX9_lead_79 : decode cX9_lead 79 = .ok (.getfield 27, 3) := by decide +kernel
theorem dX9_lead_82 : decode cX9_lead 82 = .ok (.iload 6, 2) := by decide +kernel
theorem dX9_lead_84 : decode cX9_lead 84 = .ok (.invokestatic 52, 3) := by decide +kernel
theorem dX9_lead_87 : decode cX9_lead 87 = .ok (.ifCond .eq 22, 3) := by decide +kernel
theorem dX9_lead_90 : decode cX9_lead 90 = .ok (.aload_n 0, 1) := by decide +kernel
theorem dX9_lead_91 : decode cX9_lead 91 = .ok (.iload_n 1, 1) := by decide +kernel
theorem dX9_lead_92 : decode cX9_lead 92 = .ok (.iload_n 2, 1) := by decide +kernel
theorem dX9_lead_93 : decode cX9_lead 93 = .ok (.iconst 0, 1) := by decide +kernel
theorem dX9_lead_94 : decode cX9_lead 94 = .ok (.iload 6, 2) := by decide +kernel
theorem dX9_lead_96 : decode cX9_lead 96 = .ok (.iload 4, 2) := by decide +kernel
theorem dX9_lead_98 : decode cX9_lead 98 = .ok (.iload 5, 2) := by decide +kernel
theorem dX9_lead_100 : decode cX9_lead 100 = .ok (.invokestatic 63, 3) := by decide +kernel
theorem dX9_lead_103 : decode cX9_lead 103 = .ok (.invokevirtual 67, 3) := by decide +kernel
theorem dX9_lead_106 : decode cX9_lead 106 = .ok (.goto 15, 3) := by decide +kernel
theorem dX9_lead_109 : decode cX9_lead 109 = .ok (.aload_n 0, 1) := by decide +kernel
theorem dX9_lead_110 : decode cX9_lead 110 = .ok (.iload_n 1, 1) := by decide +kernel
theorem dX9_lead_111 : decode cX9_lead 111 = .ok (.iload_n 2, 1) := by decide +kernel
theorem dX9_lead_112 : decode cX9_lead 112 = .ok (.iconst 1, 1) := by decide +kernel
theorem dX9_lead_113 : decode cX9_lead 113 = .ok (.iload_n 3, 1) := by decide +kernel
theorem dX9_lead_114 : decode cX9_lead 114 = .ok (.iload 5, 2) := by decide +kernel
theorem dX9_lead_116 : decode cX9_lead 116 = .ok (.iload 4, 2) := by decide +kernel
theorem dX9_lead_118 : decode cX9_lead 118 = .ok (.invokevirtual 67, 3) := by decide +kernel
theorem dX9_lead_121 : decode cX9_lead 121 = .ok (.return_, 1) := by decide +kernel
theorem dX9_note_0 : decode cX9_note 0 = .ok (.aload_n 0, 1) := by decide +kernel
theorem dX9_note_1 : decode cX9_note 1 = .ok (.getfield 18, 3) := by decide +kernel
theorem dX9_note_4 : decode cX9_note 4 = .ok (.bipush 6, 2) := by decide +kernel
theorem dX9_note_6 : decode cX9_note 6 = .ok (.iload 4, 2) := by decide +kernel
theorem dX9_note_8 : decode cX9_note 8 = .ok (.imul, 1) := by decide +kernel
theorem dX9_note_9 : decode cX9_note 9 = .ok (.iload 5, 2) := by decide +kernel
theorem dX9_note_11 : decode cX9_note 11 = .ok (.iadd, 1) := by decide +kernel
theorem dX9_note_12 : decode cX9_note 12 = .ok (.iaload, 1) := by decide +kernel
theorem dX9_note_13 : decode cX9_note 13 = .ok (.istore 7, 2) := by decide +kernel
theorem dX9_note_15 : decode cX9_note 15 = .ok (.aload_n 0, 1) := by decide +kernel
theorem dX9_note_16 : decode cX9_note 16 = .ok (.getfield 21, 3) := by decide +kernel
theorem dX9_note_19 : decode cX9_note 19 = .ok (.iconst 4, 1) := by decide +kernel
theorem dX9_note_20 : decode cX9_note 20 = .ok (.iload_n 1, 1) := by decide +kernel
theorem dX9_note_21 : decode cX9_note 21 = .ok (.imul, 1) := by decide +kernel
theorem dX9_note_22 : decode cX9_note 22 = .ok (.iload_n 2, 1) := by decide +kernel
theorem dX9_note_23 : decode cX9_note 23 = .ok (.iadd, 1) := by decide +kernel
theorem dX9_note_24 : decode cX9_note 24 = .ok (.iconst 4, 1) := by decide +kernel
theorem dX9_note_25 : decode cX9_note 25 = .ok (.iload 7, 2) := by decide +kernel
theorem dX9_note_27 : decode cX9_note 27 = .ok (.imul, 1) := by decide +kernel
theorem dX9_note_28 : decode cX9_note 28 = .ok (.iload 5, 2) := by decide +kernel
theorem dX9_note_30 : decode cX9_note 30 = .ok (.iload 6, 2) := by decide +kernel
theorem dX9_note_32 : decode cX9_note 32 = .ok (.invokestatic 71, 3) := by decide +kernel
theorem dX9_note_35 : decode cX9_note 35 = .ok (.iadd, 1) := by decide +kernel
theorem dX9_note_36 : decode cX9_note 36 = .ok (.iastore, 1) := by decide +kernel
theorem dX9_note_37 : decode cX9_note 37 = .ok (.aload_n 0, 1) := by decide +kernel
theorem dX9_note_38 : decode cX9_note 38 = .ok (.getfield 24, 3) := by decide +kernel
theorem dX9_note_41 : decode cX9_note 41 = .ok (.iconst 4, 1) := by decide +kernel
theorem dX9_note_42 : decode cX9_note 42 = .ok (.iload_n 1, 1) := by decide +kernel
theorem dX9_note_43 : decode cX9_note 43 = .ok (.imul, 1) := by decide +kernel
theorem dX9_note_44 : decode cX9_note 44 = .ok (.iload_n 2, 1) := by decide +kernel
theorem dX9_note_45 : decode cX9_note 45 = .ok (.iadd, 1) := by decide +kernel
theorem dX9_note_46 : decode cX9_note 46 = .ok (.iload_n 3, 1) := by decide +kernel
theorem dX9_note_47 : decode cX9_note 47 = .ok (.iastore, 1) := by decide +kernel
theorem dX9_note_48 : decode cX9_note 48 = .ok (.return_, 1) := by decide +kernel
theorem dX9_sideLooking_0 : decode cX9_sideLooking 0 = .ok (.iconst 0, 1) := by decide +kernel
theorem dX9_sideLooking_1 : decode cX9_sideLooking 1 = .ok (.istore_n 2, 1) := by decide +kernel
theorem dX9_sideLooking_2 : decode cX9_sideLooking 2 = .ok (.iload_n 2, 1) := by decide +kernel
theorem dX9_sideLooking_3 : decode cX9_sideLooking 3 = .ok (.iconst 3, 1) := by decide +kernel
theorem dX9_sideLooking_4 : decode cX9_sideLooking 4 = .ok (.if_icmp .ge 24, 3) := by decide +kernel
theorem dX9_sideLooking_7 : decode cX9_sideLooking 7 = .ok (.getstatic 60, 3) := by decide +kernel
theorem dX9_sideLooking_10 : decode cX9_sideLooking 10 = .ok (.iconst 4, 1) := by decide +kernel
theorem dX9_sideLooking_11 : decode cX9_sideLooking 11 = .ok (.iload_n 0, 1) := by decide +kernel
theorem dX9_sideLooking_12 : decode cX9_sideLooking 12 = .ok (.imul, 1) := by decide +kernel
theorem dX9_sideLooking_13 : decode cX9_sideLooking 13 = .ok (.iload_n 2, 1) := by decide +kernel
theorem dX9_sideLooking_14 : decode cX9_sideLooking 14 = .ok (.iadd, 1) := by decide +kernel
theorem dX9_sideLooking_15 : decode cX9_sideLooking 15 = .ok (.iaload, 1) := by decide +kernel
theorem dX9_sideLooking_16 : decode cX9_sideLooking 16 = .ok (.iload_n 1, 1) := by decide +kernel
theorem dX9_sideLooking_17 : decode cX9_sideLooking 17 = .ok (.if_icmp .ne 5, 3) := by decide +kernel
theorem dX9_sideLooking_20 : decode cX9_sideLooking 20 = .ok (.iload_n 2, 1) := by decide +kernel
theorem dX9_sideLooking_21 : decode cX9_sideLooking 21 = .ok (.ireturn, 1) := by decide +kernel
theorem dX9_sideLooking_22 : decode cX9_sideLooking 22 = .ok (.iinc 2 1, 3) := by decide +kernel
theorem dX9_sideLooking_25 : decode cX9_sideLooking 25 = .ok (.goto (-23), 3) := by decide +kernel
theorem dX9_sideLooking_28 : decode cX9_sideLooking 28 = .ok (.iconst 3, 1) := by decide +kernel
theorem dX9_sideLooking_29 : decode cX9_sideLooking 29 = .ok (.ireturn, 1) := by decide +kernel
theorem dX10_init_0 : decode cX10_init 0 = .ok (.aload_n 0, 1) := by decide +kernel
theorem dX10_init_1 : decode cX10_init 1 = .ok (.invokespecial 1, 3) := by decide +kernel
theorem dX10_init_4 : decode cX10_init 4 = .ok (.aload_n 0, 1) := by decide +kernel
theorem dX10_init_5 : decode cX10_init 5 = .ok (.bipush 60, 2) := by decide +kernel
theorem dX10_init_7 : decode cX10_init 7 = .ok (.newarray .int, 2) := by decide +kernel
theorem dX10_init_9 : decode cX10_init 9 = .ok (.putfield 9, 3) := by decide +kernel
theorem dX10_init_12 : decode cX10_init 12 = .ok (.aload_n 0, 1) := by decide +kernel
theorem dX10_init_13 : decode cX10_init 13 = .ok (.bipush 60, 2) := by decide +kernel
theorem dX10_init_15 : decode cX10_init 15 = .ok (.newarray .int, 2) := by decide +kernel
theorem dX10_init_17 : decode cX10_init 17 = .ok (.putfield 15, 3) := by decide +kernel
theorem dX10_init_20 : decode cX10_init 20 = .ok (.aload_n 0, 1) := by decide +kernel
theorem dX10_init_21 : decode cX10_init 21 = .ok (.bipush 60, 2) := by decide +kernel
theorem dX10_init_23 : decode cX10_init 23 = .ok (.newarray .int, 2) := by decide +kernel
theorem dX10_init_25 : decode cX10_init 25 = .ok (.putfield 18, 3) := by decide +kernel
theorem dX10_init_28 : decode cX10_init 28 = .ok (.aload_n 0, 1) := by decide +kernel
theorem dX10_init_29 : decode cX10_init 29 = .ok (.sipush 480, 3) := by decide +kernel
theorem dX10_init_32 : decode cX10_init 32 = .ok (.newarray .int, 2) := by decide +kernel
theorem dX10_init_34 : decode cX10_init 34 = .ok (.putfield 21, 3) := by decide +kernel
theorem dX10_init_37 : decode cX10_init 37 = .ok (.aload_n 0, 1) := by decide +kernel
theorem dX10_init_38 : decode cX10_init 38 = .ok (.iconst 0, 1) := by decide +kernel
theorem dX10_init_39 : decode cX10_init 39 = .ok (.putfield 24, 3) := by decide +kernel
theorem dX10_init_42 : decode cX10_init 42 = .ok (.return_, 1) := by decide +kernel
theorem dX10_ways_0 : decode cX10_ways 0 = .ok (.aload_n 0, 1) := by decide +kernel
theorem dX10_ways_1 : decode cX10_ways 1 = .ok (.getfield 24, 3) := by decide +kernel
theorem dX10_ways_4 : decode cX10_ways 4 = .ok (.ireturn, 1) := by decide +kernel
theorem dX10_squareOf_0 : decode cX10_squareOf 0 = .ok (.aload_n 0, 1) := by decide +kernel
theorem dX10_squareOf_1 : decode cX10_squareOf 1 = .ok (.getfield 21, 3) := by decide +kernel
theorem dX10_squareOf_4 : decode cX10_squareOf 4 = .ok (.iload_n 1, 1) := by decide +kernel
theorem dX10_squareOf_5 : decode cX10_squareOf 5 = .ok (.iaload, 1) := by decide +kernel
theorem dX10_squareOf_6 : decode cX10_squareOf 6 = .ok (.iconst 2, 1) := by decide +kernel
theorem dX10_squareOf_7 : decode cX10_squareOf 7 = .ok (.ishr, 1) := by decide +kernel
theorem dX10_squareOf_8 : decode cX10_squareOf 8 = .ok (.bipush 60, 2) := by decide +kernel
theorem dX10_squareOf_10 : decode cX10_squareOf 10 = .ok (.irem, 1) := by decide +kernel
theorem dX10_squareOf_11 : decode cX10_squareOf 11 = .ok (.ireturn, 1) := by decide +kernel
theorem dX10_turnOf_0 : decode cX10_turnOf 0 = .ok (.aload_n 0, 1) := by decide +kernel
theorem dX10_turnOf_1 : decode cX10_turnOf 1 = .ok (.getfield 21, 3) := by decide +kernel
theorem dX10_turnOf_4 : decode cX10_turnOf 4 = .ok (.iload_n 1, 1) := by decide +kernel
theorem dX10_turnOf_5 : decode cX10_turnOf 5 = .ok (.iaload, 1) := by decide +kernel
theorem dX10_turnOf_6 : decode cX10_turnOf 6 = .ok (.iconst 3, 1) := by decide +kernel
theorem dX10_turnOf_7 : decode cX10_turnOf 7 = .ok (.iand, 1) := by decide +kernel
theorem dX10_turnOf_8 : decode cX10_turnOf 8 = .ok (.ireturn, 1) := by decide +kernel
theorem dX10_isTurnedOver_0 : decode cX10_isTurnedOver 0 = .ok (.aload_n 0, 1) := by decide +kernel
theorem dX10_isTurnedOver_1 : decode cX10_isTurnedOver 1 = .ok (.getfield 21, 3) := by decide +kernel
theorem dX10_isTurnedOver_4 : decode cX10_isTurnedOver 4 = .ok (.iload_n 1, 1) := by decide +kernel
theorem dX10_isTurnedOver_5 : decode cX10_isTurnedOver 5 = .ok (.iaload, 1) := by decide +kernel
theorem dX10_isTurnedOver_6 : decode cX10_isTurnedOver 6 = .ok (.sipush 240, 3) := by decide +kernel
theorem dX10_isTurnedOver_9 : decode cX10_isTurnedOver 9 = .ok (.if_icmp .lt 7, 3) := by decide +kernel
theorem dX10_isTurnedOver_12 : decode cX10_isTurnedOver 12 = .ok (.iconst 1, 1) := by decide +kernel
theorem dX10_isTurnedOver_13 : decode cX10_isTurnedOver 13 = .ok (.goto 4, 3) := by decide +kernel
theorem dX10_isTurnedOver_16 : decode cX10_isTurnedOver 16 = .ok (.iconst 0, 1) := by decide +kernel
theorem dX10_isTurnedOver_17 : decode cX10_isTurnedOver 17 = .ok (.ireturn, 1) := by decide +kernel
theorem dX10_seek_0 : decode cX10_seek 0 = .ok (.aload_n 0, 1) := by decide +kernel
theorem dX10_seek_1 : decode cX10_seek 1 = .ok (.iconst 0, 1) := by decide +kernel
theorem dX10_seek_2 : decode cX10_seek 2 = .ok (.putfield 24, 3) := by decide +kernel
theorem dX10_seek_5 : decode cX10_seek 5 = .ok (.aload_n 1, 1) := by decide +kernel
theorem dX10_seek_6 : decode cX10_seek 6 = .ok (.invokevirtual 28, 3) := by decide +kernel
theorem dX10_seek_9 : decode cX10_seek 9 = .ok (.aload_n 3, 1) := by decide +kernel
theorem dX10_seek_10 : decode cX10_seek 10 = .ok (.invokevirtual 32, 3) := by decide +kernel
theorem dX10_seek_13 : decode cX10_seek 13 = .ok (.if_icmp .eq 4, 3) := by decide +kernel
theorem dX10_seek_16 : decode cX10_seek 16 = .ok (.return_, 1) := by decide +kernel
theorem dX10_seek_17 : decode cX10_seek 17 = .ok (.aload_n 2, 1) := by decide +kernel
theorem dX10_seek_18 : decode cX10_seek 18 = .ok (.aload_n 1, 1) := by decide +kernel
theorem dX10_seek_19 : decode cX10_seek 19 = .ok (.invokevirtual 35, 3) := by decide +kernel
theorem dX10_seek_22 : decode cX10_seek 22 = .ok (.aload_n 2, 1) := by decide +kernel
theorem dX10_seek_23 : decode cX10_seek 23 = .ok (.invokevirtual 41, 3) := by decide +kernel
theorem dX10_seek_26 : decode cX10_seek 26 = .ok (.ifCond .ne 4, 3) := by decide +kernel
theorem dX10_seek_29 : decode cX10_seek 29 = .ok (.return_, 1) := by decide +kernel
theorem dX10_seek_30 : decode cX10_seek 30 = .ok (.iconst 0, 1) := by decide +kernel
theorem dX10_seek_31 : decode cX10_seek 31 = .ok (.istore 4, 2) := by decide +kernel
theorem dX10_seek_33 : decode cX10_seek 33 = .ok (.iload 4, 2) := by decide +kernel
theorem dX10_seek_35 : decode cX10_seek 35 = .ok (.iconst 2, 1) := by decide +kernel
theorem dX10_seek_36 : decode cX10_seek 36 = .ok (.if_icmp .ge 83, 3) := by decide +kernel
theorem dX10_seek_39 : decode cX10_seek 39 = .ok (.iconst 0, 1) := by decide +kernel
theorem dX10_seek_40 : decode cX10_seek 40 = .ok (.istore 5, 2) := by decide +kernel
theorem dX10_seek_42 : decode cX10_seek 42 = .ok (.iload 5, 2) := by decide +kernel
theorem dX10_seek_44 : decode cX10_seek 44 = .ok (.iconst 4, 1) := by decide +kernel
theorem dX10_seek_45 : decode cX10_seek 45 = .ok (.aload_n 1, 1) := by decide +kernel
theorem dX10_seek_46 : decode cX10_seek 46 = .ok (.invokevirtual 28, 3) := by decide +kernel
theorem dX10_seek_49 : decode cX10_seek 49 = .ok (.imul, 1) := by decide +kernel
theorem dX10_seek_50 : decode cX10_seek 50 = .ok (.if_icmp .ge 63, 3) := by decide +kernel
theorem dX10_seek_53 : decode cX10_seek 53 = .ok (.aload_n 0, 1) := by decide +kernel
theorem dX10_seek_54 : decode cX10_seek 54 = .ok (.aload_n 1, 1) := by decide +kernel
theorem dX10_seek_55 : decode cX10_seek 55 = .ok (.invokevirtual 28, 3) := by decide +kernel
theorem dX10_seek_58 : decode cX10_seek 58 = .ok (.aload_n 2, 1) := by decide +kernel
theorem dX10_seek_59 : decode cX10_seek 59 = .ok (.aload_n 3, 1) := by decide +kernel
theorem dX10_seek_60 : decode cX10_seek 60 = .ok (.iload 5, 2) := by decide +kernel
theorem dX10_seek_62 : decode cX10_seek 62 = .ok (.iload 4, 2) := by decide +kernel
theorem dX10_seek_64 : decode cX10_seek 64 = .ok (.iconst 1, 1) := by decide +kernel
theorem dX10_seek_65 : decode cX10_seek 65 = .ok (.if_icmp .ne 7, 3) := by decide +kernel
theorem dX10_seek_68 : decode cX10_seek 68 = .ok (.iconst 1, 1) := by decide +kernel
theorem dX10_seek_69 : decode cX10_seek 69 = .ok (.goto 4, 3) := by decide +kernel
theorem dX10_seek_72 : decode cX10_seek 72 = .ok (.iconst 0, 1) := by decide +kernel
theorem dX10_seek_73 : decode cX10_seek 73 = .ok (.invokevirtual 45, 3) := by decide +kernel
theorem dX10_seek_76 : decode cX10_seek 76 = .ok (.ifCond .eq 31, 3) := by decide +kernel
theorem dX10_seek_79 : decode cX10_seek 79 = .ok (.aload_n 0, 1) := by decide +kernel
theorem dX10_seek_80 : decode cX10_seek 80 = .ok (.getfield 21, 3) := by decide +kernel
theorem dX10_seek_83 : decode cX10_seek 83 = .ok (.aload_n 0, 1) := by decide +kernel
theorem dX10_seek_84 : decode cX10_seek 84 = .ok (.getfield 24, 3) := by decide +kernel
theorem dX10_seek_87 : decode cX10_seek 87 = .ok (.sipush 240, 3) := by decide +kernel
theorem dX10_seek_90 : decode cX10_seek 90 = .ok (.iload 4, 2) := by decide +kernel
theorem dX10_seek_92 : decode cX10_seek 92 = .ok (.imul, 1) := by decide +kernel
theorem dX10_seek_93 : decode cX10_seek 93 = .ok (.iload 5, 2) := by decide +kernel
theorem dX10_seek_95 : decode cX10_seek 95 = .ok (.iadd, 1) := by decide +kernel
theorem dX10_seek_96 : decode cX10_seek 96 = .ok (.iastore, 1) := by decide +kernel
theorem dX10_seek_97 : decode cX10_seek 97 = .ok (.aload_n 0, 1) := by decide +kernel
theorem dX10_seek_98 : decode cX10_seek 98 = .ok (.dup, 1) := by decide +kernel
theorem dX10_seek_99 : decode cX10_seek 99 = .ok (.getfield 24, 3) := by decide +kernel
theorem dX10_seek_102 : decode cX10_seek 102 = .ok (.iconst 1, 1) := by decide +kernel
theorem dX10_seek_103 : decode cX10_seek 103 = .ok (.iadd, 1) := by decide +kernel
theorem dX10_seek_104 : decode cX10_seek 104 = .ok (.putfield 24, 3) := by decide +kernel
theorem dX10_seek_107 : decode cX10_seek 107 = .ok (.iinc 5 1, 3) := by decide +kernel
theorem dX10_seek_110 : decode cX10_seek 110 = .ok (.goto (-68), 3) := by decide +kernel
theorem dX10_seek_113 : decode cX10_seek 113 = .ok (.iinc 4 1, 3) := by decide +kernel
theorem dX10_seek_116 : decode cX10_seek 116 = .ok (.goto (-83), 3) := by decide +kernel
theorem dX10_seek_119 : decode cX10_seek 119 = .ok (.return_, 1) := by decide +kernel
theorem dX10_fits_0 : decode cX10_fits 0 = .ok (.aload_n 0, 1) := by decide +kernel
theorem dX10_fits_1 : decode cX10_fits 1 = .ok (.getfield 18, 3) := by decide +kernel
theorem dX10_fits_4 : decode cX10_fits 4 = .ok (.iconst (-1), 1) := by decide +kernel
theorem dX10_fits_5 : decode cX10_fits 5 = .ok (.invokestatic 49, 3) := by decide +kernel
theorem dX10_fits_8 : decode cX10_fits 8 = .ok (.aload_n 0, 1) := by decide +kernel
theorem dX10_fits_9 : decode cX10_fits 9 = .ok (.iconst 0, 1) := by decide +kernel
theorem dX10_fits_10 : decode cX10_fits 10 = .ok (.iload 4, 2) := by decide +kernel
theorem dX10_fits_12 : decode cX10_fits 12 = .ok (.invokevirtual 55, 3) := by decide +kernel
theorem dX10_fits_15 : decode cX10_fits 15 = .ok (.iconst 1, 1) := by decide +kernel
theorem dX10_fits_16 : decode cX10_fits 16 = .ok (.istore 6, 2) := by decide +kernel
theorem dX10_fits_18 : decode cX10_fits 18 = .ok (.iload 6, 2) := by decide +kernel
theorem dX10_fits_20 : decode cX10_fits 20 = .ok (.iload_n 1, 1) := by decide +kernel
theorem dX10_fits_21 : decode cX10_fits 21 = .ok (.if_icmp .ge 61, 3) := by decide +kernel
theorem dX10_fits_24 : decode cX10_fits 24 = .ok (.aload_n 2, 1) := by decide +kernel
theorem dX10_fits_25 : decode cX10_fits 25 = .ok (.iload 6, 2) := by decide +kernel
theorem dX10_fits_27 : decode cX10_fits 27 = .ok (.invokevirtual 59, 3) := by decide +kernel
theorem dX10_fits_30 : decode cX10_fits 30 = .ok (.istore 7, 2) := by decide +kernel
theorem dX10_fits_32 : decode cX10_fits 32 = .ok (.aload_n 0, 1) := by decide +kernel
theorem dX10_fits_33 : decode cX10_fits 33 = .ok (.aload_n 3, 1) := by decide +kernel
theorem dX10_fits_34 : decode cX10_fits 34 = .ok (.aload_n 2, 1) := by decide +kernel
theorem dX10_fits_35 : decode cX10_fits 35 = .ok (.iload 7, 2) := by decide +kernel
theorem dX10_fits_37 : decode cX10_fits 37 = .ok (.invokevirtual 63, 3) := by decide +kernel
theorem dX10_fits_40 : decode cX10_fits 40 = .ok (.aload_n 2, 1) := by decide +kernel
theorem dX10_fits_41 : decode cX10_fits 41 = .ok (.iload 7, 2) := by decide +kernel
theorem dX10_fits_43 : decode cX10_fits 43 = .ok (.invokevirtual 66, 3) := by decide +kernel
theorem dX10_fits_46 : decode cX10_fits 46 = .ok (.iload 5, 2) := by decide +kernel
theorem dX10_fits_48 : decode cX10_fits 48 = .ok (.invokevirtual 69, 3) := by decide +kernel
theorem dX10_fits_51 : decode cX10_fits 51 = .ok (.istore 8, 2) := by decide +kernel
theorem dX10_fits_53 : decode cX10_fits 53 = .ok (.aload_n 0, 1) := by decide +kernel
theorem dX10_fits_54 : decode cX10_fits 54 = .ok (.getfield 18, 3) := by decide +kernel
theorem dX10_fits_57 : decode cX10_fits 57 = .ok (.iload 8, 2) := by decide +kernel
theorem dX10_fits_59 : decode cX10_fits 59 = .ok (.iconst 2, 1) := by decide +kernel
theorem dX10_fits_60 : decode cX10_fits 60 = .ok (.ishr, 1) := by decide +kernel
theorem dX10_fits_61 : decode cX10_fits 61 = .ok (.iaload, 1) := by decide +kernel
theorem dX10_fits_62 : decode cX10_fits 62 = .ok (.iconst (-1), 1) := by decide +kernel
theorem dX10_fits_63 : decode cX10_fits 63 = .ok (.if_icmp .eq 5, 3) := by decide +kernel
theorem dX10_fits_66 : decode cX10_fits 66 = .ok (.iconst 0, 1) := by decide +kernel
theorem dX10_fits_67 : decode cX10_fits 67 = .ok (.ireturn, 1) := by decide +kernel
theorem dX10_fits_68 : decode cX10_fits 68 = .ok (.aload_n 0, 1) := by decide +kernel
theorem dX10_fits_69 : decode cX10_fits 69 = .ok (.iload 7, 2) := by decide +kernel
theorem dX10_fits_71 : decode cX10_fits 71 = .ok (.iload 8, 2) := by decide +kernel
theorem dX10_fits_73 : decode cX10_fits 73 = .ok (.invokevirtual 55, 3) := by decide +kernel
theorem dX10_fits_76 : decode cX10_fits 76 = .ok (.iinc 6 1, 3) := by decide +kernel
theorem dX10_fits_79 : decode cX10_fits 79 = .ok (.goto (-61), 3) := by decide +kernel
theorem dX10_fits_82 : decode cX10_fits 82 = .ok (.iconst 0, 1) := by decide +kernel
theorem dX10_fits_83 : decode cX10_fits 83 = .ok (.istore 6, 2) := by decide +kernel
theorem dX10_fits_85 : decode cX10_fits 85 = .ok (.iload 6, 2) := by decide +kernel
theorem dX10_fits_87 : decode cX10_fits 87 = .ok (.iload_n 1, 1) := by decide +kernel
theorem dX10_fits_88 : decode cX10_fits 88 = .ok (.if_icmp .ge 72, 3) := by decide +kernel
theorem dX10_fits_91 : decode cX10_fits 91 = .ok (.iconst 0, 1) := by decide +kernel
theorem dX10_fits_92 : decode cX10_fits 92 = .ok (.istore 7, 2) := by decide +kernel
theorem dX10_fits_94 : decode cX10_fits 94 = .ok (.iload 7, 2) := by decide +kernel
theorem dX10_fits_96 : decode cX10_fits 96 = .ok (.iconst 2, 1) := by decide +kernel
theorem dX10_fits_97 : decode cX10_fits 97 = .ok (.if_icmp .ge 57, 3) := by decide +kernel
theorem dX10_fits_100 : decode cX10_fits 100 = .ok (.aload_n 2, 1) := by decide +kernel
theorem dX10_fits_101 : decode cX10_fits 101 = .ok (.iload 6, 2) := by decide +kernel
theorem dX10_fits_103 : decode cX10_fits 103 = .ok (.iload 7, 2) := by decide +kernel
theorem dX10_fits_105 : decode cX10_fits 105 = .ok (.invokevirtual 73, 3) := by decide +kernel
theorem dX10_fits_108 : decode cX10_fits 108 = .ok (.istore 8, 2) := by decide +kernel
theorem dX10_fits_110 : decode cX10_fits 110 = .ok (.iload 8, 2) := by decide +kernel
theorem dX10_fits_112 : decode cX10_fits 112 = .ok (.ifCond .lt 36, 3) := by decide +kernel
theorem dX10_fits_115 : decode cX10_fits 115 = .ok (.aload_n 0, 1) := by decide +kernel
theorem dX10_fits_116 : decode cX10_fits 116 = .ok (.aload_n 3, 1) := by decide +kernel
theorem dX10_fits_117 : decode cX10_fits 117 = .ok (.iload 6, 2) := by decide +kernel
theorem dX10_fits_119 : decode cX10_fits 119 = .ok (.iload 7, 2) := by decide +kernel
theorem dX10_fits_121 : decode cX10_fits 121 = .ok (.iload 5, 2) := by decide +kernel
theorem dX10_fits_123 : decode cX10_fits 123 = .ok (.invokevirtual 69, 3) := by decide +kernel
theorem dX10_fits_126 : decode cX10_fits 126 = .ok (.iconst 4, 1) := by decide +kernel
theorem dX10_fits_127 : decode cX10_fits 127 = .ok (.aload_n 0, 1) := by decide +kernel
theorem dX10_fits_128 : decode cX10_fits 128 = .ok (.getfield 9, 3) := by decide +kernel
theorem dX10_fits_131 : decode cX10_fits 131 = .ok (.iload 8, 2) := by decide +kernel
theorem dX10_fits_133 : decode cX10_fits 133 = .ok (.iaload, 1) := by decide +kernel
theorem dX10_fits_134 : decode cX10_fits 134 = .ok (.imul, 1) := by decide +kernel
theorem dX10_fits_135 : decode cX10_fits 135 = .ok (.aload_n 0, 1) := by decide +kernel
theorem dX10_fits_136 : decode cX10_fits 136 = .ok (.getfield 15, 3) := by decide +kernel
theorem dX10_fits_139 : decode cX10_fits 139 = .ok (.iload 8, 2) := by decide +kernel
theorem dX10_fits_141 : decode cX10_fits 141 = .ok (.iaload, 1) := by decide +kernel
theorem dX10_fits_142 : decode cX10_fits 142 = .ok (.iadd, 1) := by decide +kernel
theorem dX10_fits_143 : decode cX10_fits 143 = .ok (.if_icmp .eq 5, 3) := by decide +kernel
theorem dX10_fits_146 : decode cX10_fits 146 = .ok (.iconst 0, 1) := by decide +kernel
theorem dX10_fits_147 : decode cX10_fits 147 = .ok (.ireturn, 1) := by decide +kernel
theorem dX10_fits_148 : decode cX10_fits 148 = .ok (.iinc 7 1, 3) := by decide +kernel
theorem dX10_fits_151 : decode cX10_fits 151 = .ok (.goto (-57), 3) := by decide +kernel
theorem dX10_fits_154 : decode cX10_fits 154 = .ok (.iinc 6 1, 3) := by decide +kernel
theorem dX10_fits_157 : decode cX10_fits 157 = .ok (.goto (-72), 3) := by decide +kernel
theorem dX10_fits_160 : decode cX10_fits 160 = .ok (.iconst 1, 1) := by decide +kernel
theorem dX10_fits_161 : decode cX10_fits 161 = .ok (.ireturn, 1) := by decide +kernel
theorem dX10_lay_0 : decode cX10_lay 0 = .ok (.aload_n 0, 1) := by decide +kernel
theorem dX10_lay_1 : decode cX10_lay 1 = .ok (.getfield 9, 3) := by decide +kernel
theorem dX10_lay_4 : decode cX10_lay 4 = .ok (.iload_n 1, 1) := by decide +kernel
theorem dX10_lay_5 : decode cX10_lay 5 = .ok (.iload_n 2, 1) := by decide +kernel
theorem dX10_lay_6 : decode cX10_lay 6 = .ok (.iconst 2, 1) := by decide +kernel
theorem dX10_lay_7 : decode cX10_lay 7 = .ok (.ishr, 1) := by decide +kernel
theorem dX10_lay_8 : decode cX10_lay 8 = .ok (.iastore, 1) := by decide +kernel
theorem dX10_lay_9 : decode cX10_lay 9 = .ok (.aload_n 0, 1) := by decide +kernel
theorem dX10_lay_10 : decode cX10_lay 10 = .ok (.getfield 15, 3) := by decide +kernel
theorem dX10_lay_13 : decode cX10_lay 13 = .ok (.iload_n 1, 1) := by decide +kernel
theorem dX10_lay_14 : decode cX10_lay 14 = .ok (.iload_n 2, 1) := by decide +kernel
theorem dX10_lay_15 : decode cX10_lay 15 = .ok (.iconst 3, 1) := by decide +kernel
theorem dX10_lay_16 : decode cX10_lay 16 = .ok (.iand, 1) := by decide +kernel
theorem dX10_lay_17 : decode cX10_lay 17 = .ok (.iastore, 1) := by decide +kernel
theorem dX10_lay_18 : decode cX10_lay 18 = .ok (.aload_n 0, 1) := by decide +kernel
theorem dX10_lay_19 : decode cX10_lay 19 = .ok (.getfield 18, 3) := by decide +kernel
theorem dX10_lay_22 : decode cX10_lay 22 = .ok (.iload_n 2, 1) := by decide +kernel
theorem dX10_lay_23 : decode cX10_lay 23 = .ok (.iconst 2, 1) := by decide +kernel
theorem dX10_lay_24 : decode cX10_lay 24 = .ok (.ishr, 1) := by decide +kernel
theorem dX10_lay_25 : decode cX10_lay 25 = .ok (.iload_n 1, 1) := by decide +kernel
theorem dX10_lay_26 : decode cX10_lay 26 = .ok (.iastore, 1) := by decide +kernel
theorem dX10_lay_27 : decode cX10_lay 27 = .ok (.return_, 1) := by decide +kernel
theorem dX10_landing_0 : decode cX10_landing 0 = .ok (.iload 4, 2) := by decide +kernel
theorem dX10_landing_2 : decode cX10_landing 2 = .ok (.ifCond .eq 10, 3) := by decide +kernel
theorem dX10_landing_5 : decode cX10_landing 5 = .ok (.iload_n 3, 1) := by decide +kernel
theorem dX10_landing_6 : decode cX10_landing 6 = .ok (.invokestatic 77, 3) := by decide +kernel
theorem dX10_landing_9 : decode cX10_landing 9 = .ok (.goto 4, 3) := by decide +kernel
theorem dX10_landing_12 : decode cX10_landing 12 = .ok (.iload_n 3, 1) := by decide +kernel
theorem dX10_landing_13 : decode cX10_landing 13 = .ok (.istore 5, 2) := by decide +kernel
theorem dX10_landing_15 : decode cX10_landing 15 = .ok (.iload 5, 2) := by decide +kernel
theorem dX10_landing_17 : decode cX10_landing 17 = .ok (.aload_n 0, 1) := by decide +kernel
theorem dX10_landing_18 : decode cX10_landing 18 = .ok (.getfield 15, 3) := by decide +kernel
theorem dX10_landing_21 : decode cX10_landing 21 = .ok (.iload_n 2, 1) := by decide +kernel
theorem dX10_landing_22 : decode cX10_landing 22 = .ok (.iaload, 1) := by decide +kernel
theorem dX10_landing_23 : decode cX10_landing 23 = .ok (.isub, 1) := by decide +kernel
theorem dX10_landing_24 : decode cX10_landing 24 = .ok (.iconst 3, 1) := by decide +kernel
theorem dX10_landing_25 : decode cX10_landing 25 = .ok (.iand, 1) := by decide +kernel
theorem dX10_landing_26 : decode cX10_landing 26 = .ok (.istore 6, 2) := by decide +kernel
theorem dX10_landing_28 : decode cX10_landing 28 = .ok (.iload 5, 2) := by decide +kernel
theorem dX10_landing_30 : decode cX10_landing 30 = .ok (.iconst 2, 1) := by decide +kernel
theorem dX10_landing_31 : decode cX10_landing 31 = .ok (.iadd, 1) := by decide +kernel
theorem dX10_landing_32 : decode cX10_landing 32 = .ok (.aload_n 1, 1) := by decide +kernel
theorem dX10_landing_33 : decode cX10_landing 33 = .ok (.aload_n 0, 1) := by decide +kernel
theorem dX10_landing_34 : decode cX10_landing 34 = .ok (.getfield 9, 3) := by decide +kernel
theorem dX10_landing_37 : decode cX10_landing 37 = .ok (.iload_n 2, 1) := by decide +kernel
theorem dX10_landing_38 : decode cX10_landing 38 = .ok (.iaload, 1) := by decide +kernel
theorem dX10_landing_39 : decode cX10_landing 39 = .ok (.iload 6, 2) := by decide +kernel
theorem dX10_landing_41 : decode cX10_landing 41 = .ok (.invokevirtual 80, 3) := by decide +kernel
theorem dX10_landing_44 : decode cX10_landing 44 = .ok (.isub, 1) := by decide +kernel
theorem dX10_landing_45 : decode cX10_landing 45 = .ok (.iconst 3, 1) := by decide +kernel
theorem dX10_landing_46 : decode cX10_landing 46 = .ok (.iand, 1) := by decide +kernel
theorem dX10_landing_47 : decode cX10_landing 47 = .ok (.istore 7, 2) := by decide +kernel
theorem dX10_landing_49 : decode cX10_landing 49 = .ok (.iconst 4, 1) := by decide +kernel
theorem dX10_landing_50 : decode cX10_landing 50 = .ok (.aload_n 1, 1) := by decide +kernel
theorem dX10_landing_51 : decode cX10_landing 51 = .ok (.aload_n 0, 1) := by decide +kernel
theorem dX10_landing_52 : decode cX10_landing 52 = .ok (.getfield 9, 3) := by decide +kernel
theorem dX10_landing_55 : decode cX10_landing 55 = .ok (.iload_n 2, 1) := by decide +kernel
theorem dX10_landing_56 : decode cX10_landing 56 = .ok (.iaload, 1) := by decide +kernel
theorem dX10_landing_57 : decode cX10_landing 57 = .ok (.iload 6, 2) := by decide +kernel
theorem dX10_landing_59 : decode cX10_landing 59 = .ok (.invokevirtual 83, 3) := by decide +kernel
theorem dX10_landing_62 : decode cX10_landing 62 = .ok (.imul, 1) := by decide +kernel
theorem dX10_landing_63 : decode cX10_landing 63 = .ok (.iload 7, 2) := by decide +kernel
theorem dX10_landing_65 : decode cX10_landing 65 = .ok (.iadd, 1) := by decide +kernel
theorem dX10_landing_66 : decode cX10_landing 66 = .ok (.ireturn, 1) := by decide +kernel
theorem dX11_init_0 : decode cX11_init 0 = .ok (.aload_n 0, 1) := by decide +kernel
theorem dX11_init_1 : decode cX11_init 1 = .ok (.invokespecial 1, 3) := by decide +kernel
theorem dX11_init_4 : decode cX11_init 4 = .ok (.aload_n 0, 1) := by decide +kernel
theorem dX11_init_5 : decode cX11_init 5 = .ok (.new 7, 3) := by decide +kernel
theorem dX11_init_8 : decode cX11_init 8 = .ok (.dup, 1) := by decide +kernel
theorem dX11_init_9 : decode cX11_init 9 = .ok (.invokespecial 9, 3) := by decide +kernel
theorem dX11_init_12 : decode cX11_init 12 = .ok (.putfield 10, 3) := by decide +kernel
theorem dX11_init_15 : decode cX11_init 15 = .ok (.aload_n 0, 1) := by decide +kernel
theorem dX11_init_16 : decode cX11_init 16 = .ok (.new 16, 3) := by decide +kernel
theorem dX11_init_19 : decode cX11_init 19 = .ok (.dup, 1) := by decide +kernel
theorem dX11_init_20 : decode cX11_init 20 = .ok (.invokespecial 18, 3) := by decide +kernel
theorem dX11_init_23 : decode cX11_init 23 = .ok (.putfield 19, 3) := by decide +kernel
theorem dX11_init_26 : decode cX11_init 26 = .ok (.aload_n 0, 1) := by decide +kernel
theorem dX11_init_27 : decode cX11_init 27 = .ok (.bipush 6, 2) := by decide +kernel
theorem dX11_init_29 : decode cX11_init 29 = .ok (.anewarray 23, 3) := by decide +kernel
theorem dX11_init_32 : decode cX11_init 32 = .ok (.putfield 25, 3) := by decide +kernel
theorem dX11_init_35 : decode cX11_init 35 = .ok (.iconst 0, 1) := by decide +kernel
theorem dX11_init_36 : decode cX11_init 36 = .ok (.istore_n 1, 1) := by decide +kernel
theorem dX11_init_37 : decode cX11_init 37 = .ok (.iload_n 1, 1) := by decide +kernel
theorem dX11_init_38 : decode cX11_init 38 = .ok (.bipush 6, 2) := by decide +kernel
theorem dX11_init_40 : decode cX11_init 40 = .ok (.if_icmp .ge 22, 3) := by decide +kernel
theorem dX11_init_43 : decode cX11_init 43 = .ok (.aload_n 0, 1) := by decide +kernel
theorem dX11_init_44 : decode cX11_init 44 = .ok (.getfield 25, 3) := by decide +kernel
theorem dX11_init_47 : decode cX11_init 47 = .ok (.iload_n 1, 1) := by decide +kernel
theorem dX11_init_48 : decode cX11_init 48 = .ok (.new 23, 3) := by decide +kernel
theorem dX11_init_51 : decode cX11_init 51 = .ok (.dup, 1) := by decide +kernel
theorem dX11_init_52 : decode cX11_init 52 = .ok (.invokespecial 29, 3) := by decide +kernel
theorem dX11_init_55 : decode cX11_init 55 = .ok (.aastore, 1) := by decide +kernel
theorem dX11_init_56 : decode cX11_init 56 = .ok (.iinc 1 1, 3) := by decide +kernel
theorem dX11_init_59 : decode cX11_init 59 = .ok (.goto (-22), 3) := by decide +kernel
theorem dX11_init_62 : decode cX11_init 62 = .ok (.aload_n 0, 1) := by decide +kernel
theorem dX11_init_63 : decode cX11_init 63 = .ok (.new 30, 3) := by decide +kernel
theorem dX11_init_66 : decode cX11_init 66 = .ok (.dup, 1) := by decide +kernel
theorem dX11_init_67 : decode cX11_init 67 = .ok (.invokespecial 32, 3) := by decide +kernel
theorem dX11_init_70 : decode cX11_init 70 = .ok (.putfield 33, 3) := by decide +kernel
theorem dX11_init_73 : decode cX11_init 73 = .ok (.aload_n 0, 1) := by decide +kernel
theorem dX11_init_74 : decode cX11_init 74 = .ok (.new 37, 3) := by decide +kernel
theorem dX11_init_77 : decode cX11_init 77 = .ok (.dup, 1) := by decide +kernel
theorem dX11_init_78 : decode cX11_init 78 = .ok (.invokespecial 39, 3) := by decide +kernel
theorem dX11_init_81 : decode cX11_init 81 = .ok (.putfield 40, 3) := by decide +kernel
theorem dX11_init_84 : decode cX11_init 84 = .ok (.aload_n 0, 1) := by decide +kernel
theorem dX11_init_85 : decode cX11_init 85 = .ok (.new 44, 3) := by decide +kernel
theorem dX11_init_88 : decode cX11_init 88 = .ok (.dup, 1) := by decide +kernel
theorem dX11_init_89 : decode cX11_init 89 = .ok (.invokespecial 46, 3) := by decide +kernel
theorem dX11_init_92 : decode cX11_init 92 = .ok (.putfield 47, 3) := by decide +kernel
theorem dX11_init_95 : decode cX11_init 95 = .ok (.aload_n 0, 1) := by decide +kernel
theorem dX11_init_96 : decode cX11_init 96 = .ok (.new 51, 3) := by decide +kernel
theorem dX11_init_99 : decode cX11_init 99 = .ok (.dup, 1) := by decide +kernel
theorem dX11_init_100 : decode cX11_init 100 = .ok (.invokespecial 53, 3) := by decide +kernel
theorem dX11_init_103 : decode cX11_init 103 = .ok (.putfield 54, 3) := by decide +kernel
theorem dX11_init_106 : decode cX11_init 106 = .ok (.aload_n 0, 1) := by decide +kernel
theorem dX11_init_107 : decode cX11_init 107 = .ok (.new 58, 3) := by decide +kernel
theorem dX11_init_110 : decode cX11_init 110 = .ok (.dup, 1) := by decide +kernel
theorem dX11_init_111 : decode cX11_init 111 = .ok (.invokespecial 60, 3) := by decide +kernel
theorem dX11_init_114 : decode cX11_init 114 = .ok (.putfield 61, 3) := by decide +kernel
theorem dX11_init_117 : decode cX11_init 117 = .ok (.aload_n 0, 1) := by decide +kernel
theorem dX11_init_118 : decode cX11_init 118 = .ok (.new 65, 3) := by decide +kernel
theorem dX11_init_121 : decode cX11_init 121 = .ok (.dup, 1) := by decide +kernel
theorem dX11_init_122 : decode cX11_init 122 = .ok (.invokespecial 67, 3) := by decide +kernel
theorem dX11_init_125 : decode cX11_init 125 = .ok (.putfield 68, 3) := by decide +kernel
theorem dX11_init_128 : decode cX11_init 128 = .ok (.aload_n 0, 1) := by decide +kernel
theorem dX11_init_129 : decode cX11_init 129 = .ok (.new 65, 3) := by decide +kernel
theorem dX11_init_132 : decode cX11_init 132 = .ok (.dup, 1) := by decide +kernel
theorem dX11_init_133 : decode cX11_init 133 = .ok (.invokespecial 67, 3) := by decide +kernel
theorem dX11_init_136 : decode cX11_init 136 = .ok (.putfield 72, 3) := by decide +kernel
theorem dX11_init_139 : decode cX11_init 139 = .ok (.aload_n 0, 1) := by decide +kernel
theorem dX11_init_140 : decode cX11_init 140 = .ok (.new 23, 3) := by decide +kernel
theorem dX11_init_143 : decode cX11_init 143 = .ok (.dup, 1) := by decide +kernel
theorem dX11_init_144 : decode cX11_init 144 = .ok (.invokespecial 29, 3) := by decide +kernel
theorem dX11_init_147 : decode cX11_init 147 = .ok (.putfield 75, 3) := by decide +kernel
theorem dX11_init_150 : decode cX11_init 150 = .ok (.return_, 1) := by decide +kernel
theorem dX11_layer_0 : decode cX11_layer 0 = .ok (.iload_n 1, 1) := by decide +kernel
theorem dX11_layer_1 : decode cX11_layer 1 = .ok (.invokestatic 79, 3) := by decide +kernel
theorem dX11_layer_4 : decode cX11_layer 4 = .ok (.ifCond .ne 6, 3) := by decide +kernel
theorem dX11_layer_7 : decode cX11_layer 7 = .ok (.bipush (-3), 2) := by decide +kernel
theorem dX11_layer_9 : decode cX11_layer 9 = .ok (.ireturn, 1) := by decide +kernel
theorem dX11_layer_10 : decode cX11_layer 10 = .ok (.aload_n 0, 1) := by decide +kernel
theorem dX11_layer_11 : decode cX11_layer 11 = .ok (.getfield 19, 3) := by decide +kernel
theorem dX11_layer_14 : decode cX11_layer 14 = .ok (.aload_n 0, 1) := by decide +kernel
theorem dX11_layer_15 : decode cX11_layer 15 = .ok (.getfield 10, 3) := by decide +kernel
theorem dX11_layer_18 : decode cX11_layer 18 = .ok (.invokevirtual 83, 3) := by decide +kernel
theorem dX11_layer_21 : decode cX11_layer 21 = .ok (.aload_n 0, 1) := by decide +kernel
theorem dX11_layer_22 : decode cX11_layer 22 = .ok (.getfield 10, 3) := by decide +kernel
theorem dX11_layer_25 : decode cX11_layer 25 = .ok (.getfield 87, 3) := by decide +kernel
theorem dX11_layer_28 : decode cX11_layer 28 = .ok (.iload_n 1, 1) := by decide +kernel
theorem dX11_layer_29 : decode cX11_layer 29 = .ok (.iload_n 2, 1) := by decide +kernel
theorem dX11_layer_30 : decode cX11_layer 30 = .ok (.invokevirtual 91, 3) := by decide +kernel
theorem dX11_layer_33 : decode cX11_layer 33 = .ok (.aload_n 0, 1) := by decide +kernel
theorem dX11_layer_34 : decode cX11_layer 34 = .ok (.invokevirtual 97, 3) := by decide +kernel
theorem dX11_layer_37 : decode cX11_layer 37 = .ok (.aload_n 0, 1) := by decide +kernel
theorem dX11_layer_38 : decode cX11_layer 38 = .ok (.getfield 10, 3) := by decide +kernel
theorem dX11_layer_41 : decode cX11_layer 41 = .ok (.getfield 87, 3) := by decide +kernel
theorem dX11_layer_44 : decode cX11_layer 44 = .ok (.iload_n 1, 1) := by decide +kernel
theorem dX11_layer_45 : decode cX11_layer 45 = .ok (.invokevirtual 100, 3) := by decide +kernel
theorem dX11_layer_48 : decode cX11_layer 48 = .ok (.ireturn, 1) := by decide +kernel
theorem dX11_lose_0 : decode cX11_lose 0 = .ok (.iload_n 1, 1) := by decide +kernel
theorem dX11_lose_1 : decode cX11_lose 1 = .ok (.invokestatic 79, 3) := by decide +kernel
theorem dX11_lose_4 : decode cX11_lose 4 = .ok (.ifCond .ne 6, 3) := by decide +kernel
theorem dX11_lose_7 : decode cX11_lose 7 = .ok (.bipush (-3), 2) := by decide +kernel
theorem dX11_lose_9 : decode cX11_lose 9 = .ok (.ireturn, 1) := by decide +kernel
theorem dX11_lose_10 : decode cX11_lose 10 = .ok (.aload_n 0, 1) := by decide +kernel
theorem dX11_lose_11 : decode cX11_lose 11 = .ok (.getfield 10, 3) := by decide +kernel
theorem dX11_lose_14 : decode cX11_lose 14 = .ok (.getfield 87, 3) := by decide +kernel
theorem dX11_lose_17 : decode cX11_lose 17 = .ok (.iload_n 1, 1) := by decide +kernel
theorem dX11_lose_18 : decode cX11_lose 18 = .ok (.invokevirtual 104, 3) := by decide +kernel
theorem dX11_lose_21 : decode cX11_lose 21 = .ok (.ifCond .eq 6, 3) := by decide +kernel
theorem dX11_lose_24 : decode cX11_lose 24 = .ok (.bipush (-11), 2) := by decide +kernel
theorem dX11_lose_26 : decode cX11_lose 26 = .ok (.ireturn, 1) := by decide +kernel
theorem dX11_lose_27 : decode cX11_lose 27 = .ok (.aload_n 0, 1) := by decide +kernel
theorem dX11_lose_28 : decode cX11_lose 28 = .ok (.getfield 19, 3) := by decide +kernel
theorem dX11_lose_31 : decode cX11_lose 31 = .ok (.aload_n 0, 1) := by decide +kernel
theorem dX11_lose_32 : decode cX11_lose 32 = .ok (.getfield 10, 3) := by decide +kernel
theorem dX11_lose_35 : decode cX11_lose 35 = .ok (.invokevirtual 83, 3) := by decide +kernel
theorem dX11_lose_38 : decode cX11_lose 38 = .ok (.aload_n 0, 1) := by decide +kernel
theorem dX11_lose_39 : decode cX11_lose 39 = .ok (.getfield 10, 3) := by decide +kernel
theorem dX11_lose_42 : decode cX11_lose 42 = .ok (.getfield 87, 3) := by decide +kernel
theorem dX11_lose_45 : decode cX11_lose 45 = .ok (.iload_n 1, 1) := by decide +kernel
theorem dX11_lose_46 : decode cX11_lose 46 = .ok (.invokevirtual 100, 3) := by decide +kernel
theorem dX11_lose_49 : decode cX11_lose 49 = .ok (.istore_n 2, 1) := by decide +kernel
theorem dX11_lose_50 : decode cX11_lose 50 = .ok (.aload_n 0, 1) := by decide +kernel
theorem dX11_lose_51 : decode cX11_lose 51 = .ok (.getfield 10, 3) := by decide +kernel
theorem dX11_lose_54 : decode cX11_lose 54 = .ok (.getfield 87, 3) := by decide +kernel
theorem dX11_lose_57 : decode cX11_lose 57 = .ok (.iload_n 1, 1) := by decide +kernel
theorem dX11_lose_58 : decode cX11_lose 58 = .ok (.invokevirtual 107, 3) := by decide +kernel
theorem dX11_lose_61 : decode cX11_lose 61 = .ok (.aload_n 0, 1) := by decide +kernel
theorem dX11_lose_62 : decode cX11_lose 62 = .ok (.invokevirtual 97, 3) := by decide +kernel
theorem dX11_lose_65 : decode cX11_lose 65 = .ok (.iload_n 2, 1) := by decide +kernel
theorem dX11_lose_66 : decode cX11_lose 66 = .ok (.ireturn, 1) := by decide +kernel
theorem dX11_cube_0 : decode cX11_cube 0 = .ok (.iload_n 1, 1) := by decide +kernel
theorem dX11_cube_1 : decode cX11_cube 1 = .ok (.invokestatic 79, 3) := by decide +kernel
theorem dX11_cube_4 : decode cX11_cube 4 = .ok (.ifCond .eq 10, 3) := by decide +kernel
theorem dX11_cube_7 : decode cX11_cube 7 = .ok (.iload_n 3, 1) := by decide +kernel
theorem dX11_cube_8 : decode cX11_cube 8 = .ok (.invokestatic 111, 3) := by decide +kernel
theorem dX11_cube_11 : decode cX11_cube 11 = .ok (.ifCond .ne 6, 3) := by decide +kernel
theorem dX11_cube_14 : decode cX11_cube 14 = .ok (.bipush (-3), 2) := by decide +kernel
theorem dX11_cube_16 : decode cX11_cube 16 = .ok (.ireturn, 1) := by decide +kernel
theorem dX11_cube_17 : decode cX11_cube 17 = .ok (.aload_n 0, 1) := by decide +kernel
theorem dX11_cube_18 : decode cX11_cube 18 = .ok (.getfield 10, 3) := by decide +kernel
theorem dX11_cube_21 : decode cX11_cube 21 = .ok (.getfield 87, 3) := by decide +kernel
theorem dX11_cube_24 : decode cX11_cube 24 = .ok (.iload_n 1, 1) := by decide +kernel
theorem dX11_cube_25 : decode cX11_cube 25 = .ok (.invokevirtual 104, 3) := by decide +kernel
theorem dX11_cube_28 : decode cX11_cube 28 = .ok (.ifCond .eq 6, 3) := by decide +kernel
theorem dX11_cube_31 : decode cX11_cube 31 = .ok (.bipush (-11), 2) := by decide +kernel
theorem dX11_cube_33 : decode cX11_cube 33 = .ok (.ireturn, 1) := by decide +kernel
theorem dX11_cube_34 : decode cX11_cube 34 = .ok (.iload_n 2, 1) := by decide +kernel
theorem dX11_cube_35 : decode cX11_cube 35 = .ok (.iconst 1, 1) := by decide +kernel
theorem dX11_cube_36 : decode cX11_cube 36 = .ok (.invokestatic 114, 3) := by decide +kernel
theorem dX11_cube_39 : decode cX11_cube 39 = .ok (.ifCond .ne 6, 3) := by decide +kernel
theorem dX11_cube_42 : decode cX11_cube 42 = .ok (.bipush (-13), 2) := by decide +kernel
theorem dX11_cube_44 : decode cX11_cube 44 = .ok (.ireturn, 1) := by decide +kernel
theorem dX11_cube_45 : decode cX11_cube 45 = .ok (.aload_n 0, 1) := by decide +kernel
theorem dX11_cube_46 : decode cX11_cube 46 = .ok (.getfield 19, 3) := by decide +kernel
theorem dX11_cube_49 : decode cX11_cube 49 = .ok (.aload_n 0, 1) := by decide +kernel
theorem dX11_cube_50 : decode cX11_cube 50 = .ok (.getfield 10, 3) := by decide +kernel
theorem dX11_cube_53 : decode cX11_cube 53 = .ok (.invokevirtual 83, 3) := by decide +kernel
theorem dX11_cube_56 : decode cX11_cube 56 = .ok (.aload_n 0, 1) := by decide +kernel
theorem dX11_cube_57 : decode cX11_cube 57 = .ok (.getfield 10, 3) := by decide +kernel
theorem dX11_cube_60 : decode cX11_cube 60 = .ok (.getfield 87, 3) := by decide +kernel
theorem dX11_cube_63 : decode cX11_cube 63 = .ok (.iload_n 1, 1) := by decide +kernel
theorem dX11_cube_64 : decode cX11_cube 64 = .ok (.invokevirtual 118, 3) := by decide +kernel
theorem dX11_cube_67 : decode cX11_cube 67 = .ok (.istore 4, 2) := by decide +kernel
theorem dX11_cube_69 : decode cX11_cube 69 = .ok (.iconst 1, 1) := by decide +kernel
theorem dX11_cube_70 : decode cX11_cube 70 = .ok (.iload_n 2, 1) := by decide +kernel
theorem dX11_cube_71 : decode cX11_cube 71 = .ok (.ishl, 1) := by decide +kernel
theorem dX11_cube_72 : decode cX11_cube 72 = .ok (.istore 5, 2) := by decide +kernel
theorem dX11_cube_74 : decode cX11_cube 74 = .ok (.aload_n 0, 1) := by decide +kernel
theorem dX11_cube_75 : decode cX11_cube 75 = .ok (.getfield 10, 3) := by decide +kernel
theorem dX11_cube_78 : decode cX11_cube 78 = .ok (.getfield 87, 3) := by decide +kernel
theorem dX11_cube_81 : decode cX11_cube 81 = .ok (.iload_n 1, 1) := by decide +kernel
theorem dX11_cube_82 : decode cX11_cube 82 = .ok (.iload_n 3, 1) := by decide +kernel
theorem dX11_cube_83 : decode cX11_cube 83 = .ok (.iconst 1, 1) := by decide +kernel
theorem dX11_cube_84 : decode cX11_cube 84 = .ok (.if_icmp .ne 11, 3) := by decide +kernel
theorem dX11_cube_87 : decode cX11_cube 87 = .ok (.iload 4, 2) := by decide +kernel
theorem dX11_cube_89 : decode cX11_cube 89 = .ok (.iload 5, 2) := by decide +kernel
theorem dX11_cube_91 : decode cX11_cube 91 = .ok (.ior, 1) := by decide +kernel
theorem dX11_cube_92 : decode cX11_cube 92 = .ok (.goto 10, 3) := by decide +kernel
theorem dX11_cube_95 : decode cX11_cube 95 = .ok (.iload 4, 2) := by decide +kernel
theorem dX11_cube_97 : decode cX11_cube 97 = .ok (.iload 5, 2) := by decide +kernel
theorem dX11_cube_99 : decode cX11_cube 99 = .ok (.iconst (-1), 1) := by decide +kernel
theorem dX11_cube_100 : decode cX11_cube 100 = .ok (.ixor, 1) := by decide +kernel
theorem dX11_cube_101 : decode cX11_cube 101 = .ok (.iand, 1) := by decide +kernel
theorem dX11_cube_102 : decode cX11_cube 102 = .ok (.invokevirtual 91, 3) := by decide +kernel
theorem dX11_cube_105 : decode cX11_cube 105 = .ok (.aload_n 0, 1) := by decide +kernel
theorem dX11_cube_106 : decode cX11_cube 106 = .ok (.invokevirtual 97, 3) := by decide +kernel
theorem dX11_cube_109 : decode cX11_cube 109 = .ok (.iload 4, 2) := by decide +kernel
theorem dX11_cube_111 : decode cX11_cube 111 = .ok (.iload 5, 2) := by decide +kernel
theorem dX11_cube_113 : decode cX11_cube 113 = .ok (.iand, 1) := by decide +kernel
theorem dX11_cube_114 : decode cX11_cube 114 = .ok (.ifCond .eq 7, 3) := by decide +kernel
theorem dX11_cube_117 : decode cX11_cube 117 = .ok (.iconst 1, 1) := by decide +kernel
theorem dX11_cube_118 : decode cX11_cube 118 = .ok (.goto 4, 3) := by decide +kernel
theorem dX11_cube_121 : decode cX11_cube 121 = .ok (.iconst 0, 1) := by decide +kernel
theorem dX11_cube_122 : decode cX11_cube 122 = .ok (.ireturn, 1) := by decide +kernel
theorem dX11_copy_0 : decode cX11_copy 0 = .ok (.iload_n 1, 1) := by decide +kernel
theorem dX11_copy_1 : decode cX11_copy 1 = .ok (.invokestatic 79, 3) := by decide +kernel
theorem dX11_copy_4 : decode cX11_copy 4 = .ok (.ifCond .eq 10, 3) := by decide +kernel
theorem dX11_copy_7 : decode cX11_copy 7 = .ok (.iload_n 3, 1) := by decide +kernel
theorem dX11_copy_8 : decode cX11_copy 8 = .ok (.invokestatic 79, 3) := by decide +kernel
theorem dX11_copy_11 : decode cX11_copy 11 = .ok (.ifCond .ne 6, 3) := by decide +kernel
theorem dX11_copy_14 : decode cX11_copy 14 = .ok (.bipush (-3), 2) := by decide +kernel
theorem dX11_copy_16 : decode cX11_copy 16 = .ok (.ireturn, 1) := by decide +kernel
theorem dX11_copy_17 : decode cX11_copy 17 = .ok (.aload_n 0, 1) := by decide +kernel
theorem dX11_copy_18 : decode cX11_copy 18 = .ok (.getfield 10, 3) := by decide +kernel
theorem dX11_copy_21 : decode cX11_copy 21 = .ok (.getfield 87, 3) := by decide +kernel
theorem dX11_copy_24 : decode cX11_copy 24 = .ok (.iload_n 1, 1) := by decide +kernel
theorem dX11_copy_25 : decode cX11_copy 25 = .ok (.invokevirtual 104, 3) := by decide +kernel
theorem dX11_copy_28 : decode cX11_copy 28 = .ok (.ifCond .ne 17, 3) := by decide +kernel
theorem dX11_copy_31 : decode cX11_copy 31 = .ok (.aload_n 0, 1) := by decide +kernel
theorem dX11_copy_32 : decode cX11_copy 32 = .ok (.getfield 10, 3) := by decide +kernel
theorem dX11_copy_35 : decode cX11_copy 35 = .ok (.getfield 87, 3) := by decide +kernel
theorem dX11_copy_38 : decode cX11_copy 38 = .ok (.iload_n 3, 1) := by decide +kernel
theorem dX11_copy_39 : decode cX11_copy 39 = .ok (.invokevirtual 104, 3) := by decide +kernel
theorem dX11_copy_42 : decode cX11_copy 42 = .ok (.ifCond .eq 6, 3) := by decide +kernel
theorem dX11_copy_45 : decode cX11_copy 45 = .ok (.bipush (-11), 2) := by decide +kernel
theorem dX11_copy_47 : decode cX11_copy 47 = .ok (.ireturn, 1) := by decide +kernel
theorem dX11_copy_48 : decode cX11_copy 48 = .ok (.iload_n 2, 1) := by decide +kernel
theorem dX11_copy_49 : decode cX11_copy 49 = .ok (.iload 5, 2) := by decide +kernel
theorem dX11_copy_51 : decode cX11_copy 51 = .ok (.invokestatic 114, 3) := by decide +kernel
theorem dX11_copy_54 : decode cX11_copy 54 = .ok (.ifCond .eq 13, 3) := by decide +kernel
theorem dX11_copy_57 : decode cX11_copy 57 = .ok (.iload 4, 2) := by decide +kernel
theorem dX11_copy_59 : decode cX11_copy 59 = .ok (.iload 5, 2) := by decide +kernel
theorem dX11_copy_61 : decode cX11_copy 61 = .ok (.invokestatic 114, 3) := by decide +kernel
theorem dX11_copy_64 : decode cX11_copy 64 = .ok (.ifCond .ne 6, 3) := by decide +kernel
theorem dX11_copy_67 : decode cX11_copy 67 = .ok (.bipush (-13), 2) := by decide +kernel
theorem dX11_copy_69 : decode cX11_copy 69 = .ok (.ireturn, 1) := by decide +kernel
theorem dX11_copy_70 : decode cX11_copy 70 = .ok (.aload_n 0, 1) := by decide +kernel
theorem dX11_copy_71 : decode cX11_copy 71 = .ok (.getfield 19, 3) := by decide +kernel
theorem dX11_copy_74 : decode cX11_copy 74 = .ok (.aload_n 0, 1) := by decide +kernel
theorem dX11_copy_75 : decode cX11_copy 75 = .ok (.getfield 10, 3) := by decide +kernel
theorem dX11_copy_78 : decode cX11_copy 78 = .ok (.invokevirtual 83, 3) := by decide +kernel
theorem dX11_copy_81 : decode cX11_copy 81 = .ok (.iconst 1, 1) := by decide +kernel
theorem dX11_copy_82 : decode cX11_copy 82 = .ok (.iload 5, 2) := by decide +kernel
theorem dX11_copy_84 : decode cX11_copy 84 = .ok (.ishl, 1) := by decide +kernel
theorem dX11_copy_85 : decode cX11_copy 85 = .ok (.iconst 1, 1) := by decide +kernel
theorem dX11_copy_86 : decode cX11_copy 86 = .ok (.isub, 1) := by decide +kernel
theorem dX11_copy_87 : decode cX11_copy 87 = .ok (.istore 6, 2) := by decide +kernel
theorem dX11_copy_89 : decode cX11_copy 89 = .ok (.aload_n 0, 1) := by decide +kernel
theorem dX11_copy_90 : decode cX11_copy 90 = .ok (.getfield 10, 3) := by decide +kernel
theorem dX11_copy_93 : decode cX11_copy 93 = .ok (.getfield 87, 3) := by decide +kernel
theorem dX11_copy_96 : decode cX11_copy 96 = .ok (.iload_n 1, 1) := by decide +kernel
theorem dX11_copy_97 : decode cX11_copy 97 = .ok (.invokevirtual 118, 3) := by decide +kernel
theorem dX11_copy_100 : decode cX11_copy 100 = .ok (.iload_n 2, 1) := by decide +kernel
theorem dX11_copy_101 : decode cX11_copy 101 = .ok (.ishr, 1) := by decide +kernel
theorem dX11_copy_102 : decode cX11_copy 102 = .ok (.iload 6, 2) := by decide +kernel
theorem dX11_copy_104 : decode cX11_copy 104 = .ok (.iand, 1) := by decide +kernel
theorem dX11_copy_105 : decode cX11_copy 105 = .ok (.istore 7, 2) := by decide +kernel
theorem dX11_copy_107 : decode cX11_copy 107 = .ok (.aload_n 0, 1) := by decide +kernel
theorem dX11_copy_108 : decode cX11_copy 108 = .ok (.getfield 10, 3) := by decide +kernel
theorem dX11_copy_111 : decode cX11_copy 111 = .ok (.getfield 87, 3) := by decide +kernel
theorem dX11_copy_114 : decode cX11_copy 114 = .ok (.iload_n 3, 1) := by decide +kernel
theorem dX11_copy_115 : decode cX11_copy 115 = .ok (.aload_n 0, 1) := by decide +kernel
theorem dX11_copy_116 : decode cX11_copy 116 = .ok (.getfield 10, 3) := by decide +kernel
theorem dX11_copy_119 : decode cX11_copy 119 = .ok (.getfield 87, 3) := by decide +kernel
theorem dX11_copy_122 : decode cX11_copy 122 = .ok (.iload_n 3, 1) := by decide +kernel
theorem dX11_copy_123 : decode cX11_copy 123 = .ok (.invokevirtual 118, 3) := by decide +kernel
theorem dX11_copy_126 : decode cX11_copy 126 = .ok (.iload 6, 2) := by decide +kernel
theorem dX11_copy_128 : decode cX11_copy 128 = .ok (.iload 4, 2) := by decide +kernel
theorem dX11_copy_130 : decode cX11_copy 130 = .ok (.ishl, 1) := by decide +kernel
theorem dX11_copy_131 : decode cX11_copy 131 = .ok (.iconst (-1), 1) := by decide +kernel
theorem dX11_copy_132 : decode cX11_copy 132 = .ok (.ixor, 1) := by decide +kernel
theorem dX11_copy_133 : decode cX11_copy 133 = .ok (.iand, 1) := by decide +kernel
theorem dX11_copy_134 : decode cX11_copy 134 = .ok (.iload 7, 2) := by decide +kernel
theorem dX11_copy_136 : decode cX11_copy 136 = .ok (.iload 4, 2) := by decide +kernel
theorem dX11_copy_138 : decode cX11_copy 138 = .ok (.ishl, 1) := by decide +kernel
theorem dX11_copy_139 : decode cX11_copy 139 = .ok (.ior, 1) := by decide +kernel
theorem dX11_copy_140 : decode cX11_copy 140 = .ok (.invokevirtual 91, 3) := by decide +kernel
theorem dX11_copy_143 : decode cX11_copy 143 = .ok (.aload_n 0, 1) := by decide +kernel
theorem dX11_copy_144 : decode cX11_copy 144 = .ok (.invokevirtual 97, 3) := by decide +kernel
theorem dX11_copy_147 : decode cX11_copy 147 = .ok (.iload 5, 2) := by decide +kernel
theorem dX11_copy_149 : decode cX11_copy 149 = .ok (.ireturn, 1) := by decide +kernel
theorem dX11_box_0 : decode cX11_box 0 = .ok (.iload_n 1, 1) := by decide +kernel
theorem dX11_box_1 : decode cX11_box 1 = .ok (.invokestatic 121, 3) := by decide +kernel
theorem dX11_box_4 : decode cX11_box 4 = .ok (.ifCond .eq 17, 3) := by decide +kernel
theorem dX11_box_7 : decode cX11_box 7 = .ok (.iload_n 2, 1) := by decide +kernel
theorem dX11_box_8 : decode cX11_box 8 = .ok (.invokestatic 121, 3) := by decide +kernel
theorem dX11_box_11 : decode cX11_box 11 = .ok (.ifCond .eq 10, 3) := by decide +kernel
theorem dX11_box_14 : decode cX11_box 14 = .ok (.iload_n 3, 1) := by decide +kernel
theorem dX11_box_15 : decode cX11_box 15 = .ok (.invokestatic 121, 3) := by decide +kernel
theorem dX11_box_18 : decode cX11_box 18 = .ok (.ifCond .ne 6, 3) := by decide +kernel
theorem dX11_box_21 : decode cX11_box 21 = .ok (.bipush (-3), 2) := by decide +kernel
theorem dX11_box_23 : decode cX11_box 23 = .ok (.ireturn, 1) := by decide +kernel
theorem dX11_box_24 : decode cX11_box 24 = .ok (.aload_n 0, 1) := by decide +kernel
theorem dX11_box_25 : decode cX11_box 25 = .ok (.getfield 19, 3) := by decide +kernel
theorem dX11_box_28 : decode cX11_box 28 = .ok (.aload_n 0, 1) := by decide +kernel
theorem dX11_box_29 : decode cX11_box 29 = .ok (.getfield 10, 3) := by decide +kernel
theorem dX11_box_32 : decode cX11_box 32 = .ok (.invokevirtual 83, 3) := by decide +kernel
theorem dX11_box_35 : decode cX11_box 35 = .ok (.iconst 0, 1) := by decide +kernel
theorem dX11_box_36 : decode cX11_box 36 = .ok (.istore 4, 2) := by decide +kernel
theorem dX11_box_38 : decode cX11_box 38 = .ok (.iconst 0, 1) := by decide +kernel
theorem dX11_box_39 : decode cX11_box 39 = .ok (.istore 5, 2) := by decide +kernel
theorem dX11_box_41 : decode cX11_box 41 = .ok (.iload 5, 2) := by decide +kernel
theorem dX11_box_43 : decode cX11_box 43 = .ok (.iload_n 2, 1) := by decide +kernel
theorem dX11_box_44 : decode cX11_box 44 = .ok (.if_icmp .ge 24, 3) := by decide +kernel
theorem dX11_box_47 : decode cX11_box 47 = .ok (.iload 4, 2) := by decide +kernel
theorem dX11_box_49 : decode cX11_box 49 = .ok (.iconst 1, 1) := by decide +kernel
theorem dX11_box_50 : decode cX11_box 50 = .ok (.iload_n 1, 1) := by decide +kernel
theorem dX11_box_51 : decode cX11_box 51 = .ok (.ishl, 1) := by decide +kernel
theorem dX11_box_52 : decode cX11_box 52 = .ok (.iconst 1, 1) := by decide +kernel
theorem dX11_box_53 : decode cX11_box 53 = .ok (.isub, 1) := by decide +kernel
theorem dX11_box_54 : decode cX11_box 54 = .ok (.iconst 4, 1) := by decide +kernel
theorem dX11_box_55 : decode cX11_box 55 = .ok (.iload 5, 2) := by decide +kernel
theorem dX11_box_57 : decode cX11_box 57 = .ok (.imul, 1) := by decide +kernel
theorem dX11_box_58 : decode cX11_box 58 = .ok (.ishl, 1) := by decide +kernel
theorem dX11_box_59 : decode cX11_box 59 = .ok (.ior, 1) := by decide +kernel
theorem dX11_box_60 : decode cX11_box 60 = .ok (.istore 4, 2) := by decide +kernel
theorem dX11_box_62 : decode cX11_box 62 = .ok (.iinc 5 1, 3) := by decide +kernel
theorem dX11_box_65 : decode cX11_box 65 = .ok (.goto (-24), 3) := by decide +kernel
theorem dX11_box_68 : decode cX11_box 68 = .ok (.iconst 0, 1) := by decide +kernel
theorem dX11_box_69 : decode cX11_box 69 = .ok (.istore 5, 2) := by decide +kernel
theorem dX11_box_71 : decode cX11_box 71 = .ok (.iload 5, 2) := by decide +kernel
theorem dX11_box_73 : decode cX11_box 73 = .ok (.iconst 4, 1) := by decide +kernel
theorem dX11_box_74 : decode cX11_box 74 = .ok (.if_icmp .ge 44, 3) := by decide +kernel
theorem dX11_box_77 : decode cX11_box 77 = .ok (.iload 5, 2) := by decide +kernel
theorem dX11_box_79 : decode cX11_box 79 = .ok (.iload_n 3, 1) := by decide +kernel
theorem dX11_box_80 : decode cX11_box 80 = .ok (.if_icmp .ge 20, 3) := by decide +kernel
theorem dX11_box_83 : decode cX11_box 83 = .ok (.aload_n 0, 1) := by decide +kernel
theorem dX11_box_84 : decode cX11_box 84 = .ok (.getfield 10, 3) := by decide +kernel
theorem dX11_box_87 : decode cX11_box 87 = .ok (.getfield 87, 3) := by decide +kernel
theorem dX11_box_90 : decode cX11_box 90 = .ok (.iload 5, 2) := by decide +kernel
theorem dX11_box_92 : decode cX11_box 92 = .ok (.iload 4, 2) := by decide +kernel
theorem dX11_box_94 : decode cX11_box 94 = .ok (.invokevirtual 91, 3) := by decide +kernel
theorem dX11_box_97 : decode cX11_box 97 = .ok (.goto 15, 3) := by decide +kernel
theorem dX11_box_100 : decode cX11_box 100 = .ok (.aload_n 0, 1) := by decide +kernel
theorem dX11_box_101 : decode cX11_box 101 = .ok (.getfield 10, 3) := by decide +kernel
theorem dX11_box_104 : decode cX11_box 104 = .ok (.getfield 87, 3) := by decide +kernel
theorem dX11_box_107 : decode cX11_box 107 = .ok (.iload 5, 2) := by decide +kernel
theorem dX11_box_109 : decode cX11_box 109 = .ok (.invokevirtual 107, 3) := by decide +kernel
theorem dX11_box_112 : decode cX11_box 112 = .ok (.iinc 5 1, 3) := by decide +kernel
theorem dX11_box_115 : decode cX11_box 115 = .ok (.goto (-44), 3) := by decide +kernel
theorem dX11_box_118 : decode cX11_box 118 = .ok (.aload_n 0, 1) := by decide +kernel
theorem dX11_box_119 : decode cX11_box 119 = .ok (.invokevirtual 97, 3) := by decide +kernel
theorem dX11_box_122 : decode cX11_box 122 = .ok (.iload_n 1, 1) := by decide +kernel
theorem dX11_box_123 : decode cX11_box 123 = .ok (.iload_n 2, 1) := by decide +kernel
theorem dX11_box_124 : decode cX11_box 124 = .ok (.imul, 1) := by decide +kernel
theorem dX11_box_125 : decode cX11_box 125 = .ok (.iload_n 3, 1) := by decide +kernel
theorem dX11_box_126 : decode cX11_box 126 = .ok (.imul, 1) := by decide +kernel
theorem dX11_box_127 : decode cX11_box 127 = .ok (.ireturn, 1) := by decide +kernel
theorem dX11_well_0 : decode cX11_well 0 = .ok (.aload_n 0, 1) := by decide +kernel
theorem dX11_well_1 : decode cX11_well 1 = .ok (.getfield 33, 3) := by decide +kernel
theorem dX11_well_4 : decode cX11_well 4 = .ok (.invokevirtual 124, 3) := by decide +kernel
theorem dX11_well_7 : decode cX11_well 7 = .ok (.ireturn, 1) := by decide +kernel
theorem dX11_skin_0 : decode cX11_skin 0 = .ok (.aload_n 0, 1) := by decide +kernel
theorem dX11_skin_1 : decode cX11_skin 1 = .ok (.getfield 33, 3) := by decide +kernel
theorem dX11_skin_4 : decode cX11_skin 4 = .ok (.invokevirtual 128, 3) := by decide +kernel
theorem dX11_skin_7 : decode cX11_skin 7 = .ok (.ireturn, 1) := by decide +kernel
theorem dX11_square_0 : decode cX11_square 0 = .ok (.iload_n 1, 1) := by decide +kernel
theorem dX11_square_1 : decode cX11_square 1 = .ok (.aload_n 0, 1) := by decide +kernel
theorem dX11_square_2 : decode cX11_square 2 = .ok (.getfield 33, 3) := by decide +kernel
theorem dX11_square_5 : decode cX11_square 5 = .ok (.invokevirtual 128, 3) := by decide +kernel
theorem dX11_square_8 : decode cX11_square 8 = .ok (.invokestatic 131, 3) := by decide +kernel
theorem dX11_square_11 : decode cX11_square 11 = .ok (.ifCond .eq 11, 3) := by decide +kernel
theorem dX11_square_14 : decode cX11_square 14 = .ok (.iload_n 2, 1) := by decide +kernel
theorem dX11_square_15 : decode cX11_square 15 = .ok (.iconst 4, 1) := by decide +kernel
theorem dX11_square_16 : decode cX11_square 16 = .ok (.invokestatic 131, 3) := by decide +kernel
theorem dX11_square_19 : decode cX11_square 19 = .ok (.ifCond .ne 6, 3) := by decide +kernel
theorem dX11_square_22 : decode cX11_square 22 = .ok (.bipush (-3), 2) := by decide +kernel
theorem dX11_square_24 : decode cX11_square 24 = .ok (.ireturn, 1) := by decide +kernel
theorem dX11_square_25 : decode cX11_square 25 = .ok (.iload_n 2, 1) := by decide +kernel
theorem dX11_square_26 : decode cX11_square 26 = .ok (.iconst 3, 1) := by decide +kernel
theorem dX11_square_27 : decode cX11_square 27 = .ok (.if_icmp .ne 12, 3) := by decide +kernel
theorem dX11_square_30 : decode cX11_square 30 = .ok (.aload_n 0, 1) := by decide +kernel
theorem dX11_square_31 : decode cX11_square 31 = .ok (.getfield 33, 3) := by decide +kernel
theorem dX11_square_34 : decode cX11_square 34 = .ok (.iload_n 1, 1) := by decide +kernel
theorem dX11_square_35 : decode cX11_square 35 = .ok (.invokevirtual 134, 3) := by decide +kernel
theorem dX11_square_38 : decode cX11_square 38 = .ok (.ireturn, 1) := by decide +kernel
theorem dX11_square_39 : decode cX11_square 39 = .ok (.aload_n 0, 1) := by decide +kernel
theorem dX11_square_40 : decode cX11_square 40 = .ok (.getfield 33, 3) := by decide +kernel
theorem dX11_square_43 : decode cX11_square 43 = .ok (.iload_n 1, 1) := by decide +kernel
theorem dX11_square_44 : decode cX11_square 44 = .ok (.invokevirtual 137, 3) := by decide +kernel
theorem dX11_square_47 : decode cX11_square 47 = .ok (.iload_n 2, 1) := by decide +kernel
theorem dX11_square_48 : decode cX11_square 48 = .ok (.invokestatic 140, 3) := by decide +kernel
theorem dX11_square_51 : decode cX11_square 51 = .ok (.ireturn, 1) := by decide +kernel
theorem dX11_across_0 : decode cX11_across 0 = .ok (.iload_n 1, 1) := by decide +kernel
theorem dX11_across_1 : decode cX11_across 1 = .ok (.aload_n 0, 1) := by decide +kernel
theorem dX11_across_2 : decode cX11_across 2 = .ok (.getfield 33, 3) := by decide +kernel
theorem dX11_across_5 : decode cX11_across 5 = .ok (.invokevirtual 128, 3) := by decide +kernel
theorem dX11_across_8 : decode cX11_across 8 = .ok (.invokestatic 131, 3) := by decide +kernel
theorem dX11_across_11 : decode cX11_across 11 = .ok (.ifCond .eq 19, 3) := by decide +kernel
theorem dX11_across_14 : decode cX11_across 14 = .ok (.iload_n 2, 1) := by decide +kernel
theorem dX11_across_15 : decode cX11_across 15 = .ok (.iconst 4, 1) := by decide +kernel
theorem dX11_across_16 : decode cX11_across 16 = .ok (.invokestatic 131, 3) := by decide +kernel
theorem dX11_across_19 : decode cX11_across 19 = .ok (.ifCond .eq 11, 3) := by decide +kernel
theorem dX11_across_22 : decode cX11_across 22 = .ok (.iload_n 3, 1) := by decide +kernel
theorem dX11_across_23 : decode cX11_across 23 = .ok (.iconst 4, 1) := by decide +kernel
theorem dX11_across_24 : decode cX11_across 24 = .ok (.invokestatic 131, 3) := by decide +kernel
theorem dX11_across_27 : decode cX11_across 27 = .ok (.ifCond .ne 6, 3) := by decide +kernel
theorem dX11_across_30 : decode cX11_across 30 = .ok (.bipush (-3), 2) := by decide +kernel
theorem dX11_across_32 : decode cX11_across 32 = .ok (.ireturn, 1) := by decide +kernel
theorem dX11_across_33 : decode cX11_across 33 = .ok (.aload_n 0, 1) := by decide +kernel
theorem dX11_across_34 : decode cX11_across 34 = .ok (.getfield 33, 3) := by decide +kernel
theorem dX11_across_37 : decode cX11_across 37 = .ok (.invokevirtual 124, 3) := by decide +kernel
theorem dX11_across_40 : decode cX11_across 40 = .ok (.ifCond .eq 6, 3) := by decide +kernel
theorem dX11_across_43 : decode cX11_across 43 = .ok (.bipush (-4), 2) := by decide +kernel
theorem dX11_across_45 : decode cX11_across 45 = .ok (.ireturn, 1) := by decide +kernel
theorem dX11_across_46 : decode cX11_across 46 = .ok (.iload_n 3, 1) := by decide +kernel
theorem dX11_across_47 : decode cX11_across 47 = .ok (.tableswitch 58 0 2 #[25, 35, 45], 25) := by decide +kernel
theorem dX11_across_72 : decode cX11_across 72 = .ok (.aload_n 0, 1) := by decide +kernel
theorem dX11_across_73 : decode cX11_across 73 = .ok (.getfield 33, 3) := by decide +kernel
theorem dX11_across_76 : decode cX11_across 76 = .ok (.iload_n 1, 1) := by decide +kernel
theorem dX11_across_77 : decode cX11_across 77 = .ok (.iload_n 2, 1) := by decide +kernel
theorem dX11_across_78 : decode cX11_across 78 = .ok (.invokevirtual 144, 3) := by decide +kernel
theorem dX11_across_81 : decode cX11_across 81 = .ok (.ireturn, 1) := by decide +kernel
theorem dX11_across_82 : decode cX11_across 82 = .ok (.aload_n 0, 1) := by decide +kernel
theorem dX11_across_83 : decode cX11_across 83 = .ok (.getfield 33, 3) := by decide +kernel
theorem dX11_across_86 : decode cX11_across 86 = .ok (.iload_n 1, 1) := by decide +kernel
theorem dX11_across_87 : decode cX11_across 87 = .ok (.iload_n 2, 1) := by decide +kernel
theorem dX11_across_88 : decode cX11_across 88 = .ok (.invokevirtual 147, 3) := by decide +kernel
theorem dX11_across_91 : decode cX11_across 91 = .ok (.ireturn, 1) := by decide +kernel
theorem dX11_across_92 : decode cX11_across 92 = .ok (.aload_n 0, 1) := by decide +kernel
theorem dX11_across_93 : decode cX11_across 93 = .ok (.getfield 33, 3) := by decide +kernel
theorem dX11_across_96 : decode cX11_across 96 = .ok (.iload_n 1, 1) := by decide +kernel
theorem dX11_across_97 : decode cX11_across 97 = .ok (.iload_n 2, 1) := by decide +kernel
theorem dX11_across_98 : decode cX11_across 98 = .ok (.invokevirtual 150, 3) := by decide +kernel
theorem dX11_across_101 : decode cX11_across 101 = .ok (.invokestatic 153, 3) := by decide +kernel
theorem dX11_across_104 : decode cX11_across 104 = .ok (.ireturn, 1) := by decide +kernel
theorem dX11_across_105 : decode cX11_across 105 = .ok (.aload_n 0, 1) := by decide +kernel
theorem dX11_across_106 : decode cX11_across 106 = .ok (.getfield 10, 3) := by decide +kernel
theorem dX11_across_109 : decode cX11_across 109 = .ok (.getfield 156, 3) := by decide +kernel
theorem dX11_across_112 : decode cX11_across 112 = .ok (.iload_n 1, 1) := by decide +kernel
theorem dX11_across_113 : decode cX11_across 113 = .ok (.iload_n 2, 1) := by decide +kernel
theorem dX11_across_114 : decode cX11_across 114 = .ok (.invokevirtual 160, 3) := by decide +kernel
theorem dX11_across_117 : decode cX11_across 117 = .ok (.ifCond .eq 7, 3) := by decide +kernel
theorem dX11_across_120 : decode cX11_across 120 = .ok (.iconst 1, 1) := by decide +kernel
theorem dX11_across_121 : decode cX11_across 121 = .ok (.goto 4, 3) := by decide +kernel
theorem dX11_across_124 : decode cX11_across 124 = .ok (.iconst 0, 1) := by decide +kernel
theorem dX11_across_125 : decode cX11_across 125 = .ok (.ireturn, 1) := by decide +kernel
theorem dX11_cut_0 : decode cX11_cut 0 = .ok (.iload_n 1, 1) := by decide +kernel
theorem dX11_cut_1 : decode cX11_cut 1 = .ok (.aload_n 0, 1) := by decide +kernel
theorem dX11_cut_2 : decode cX11_cut 2 = .ok (.getfield 33, 3) := by decide +kernel
theorem dX11_cut_5 : decode cX11_cut 5 = .ok (.invokevirtual 128, 3) := by decide +kernel
theorem dX11_cut_8 : decode cX11_cut 8 = .ok (.invokestatic 131, 3) := by decide +kernel
theorem dX11_cut_11 : decode cX11_cut 11 = .ok (.ifCond .eq 18, 3) := by decide +kernel
theorem dX11_cut_14 : decode cX11_cut 14 = .ok (.iload_n 2, 1) := by decide +kernel
theorem dX11_cut_15 : decode cX11_cut 15 = .ok (.iconst 4, 1) := by decide +kernel
theorem dX11_cut_16 : decode cX11_cut 16 = .ok (.invokestatic 131, 3) := by decide +kernel
theorem dX11_cut_19 : decode cX11_cut 19 = .ok (.ifCond .eq 10, 3) := by decide +kernel
theorem dX11_cut_22 : decode cX11_cut 22 = .ok (.iload_n 3, 1) := by decide +kernel
theorem dX11_cut_23 : decode cX11_cut 23 = .ok (.invokestatic 111, 3) := by decide +kernel
theorem dX11_cut_26 : decode cX11_cut 26 = .ok (.ifCond .ne 6, 3) := by decide +kernel
theorem dX11_cut_29 : decode cX11_cut 29 = .ok (.bipush (-3), 2) := by decide +kernel
theorem dX11_cut_31 : decode cX11_cut 31 = .ok (.ireturn, 1) := by decide +kernel
theorem dX11_cut_32 : decode cX11_cut 32 = .ok (.aload_n 0, 1) := by decide +kernel
theorem dX11_cut_33 : decode cX11_cut 33 = .ok (.getfield 33, 3) := by decide +kernel
theorem dX11_cut_36 : decode cX11_cut 36 = .ok (.invokevirtual 124, 3) := by decide +kernel
theorem dX11_cut_39 : decode cX11_cut 39 = .ok (.ifCond .eq 6, 3) := by decide +kernel
theorem dX11_cut_42 : decode cX11_cut 42 = .ok (.bipush (-4), 2) := by decide +kernel
theorem dX11_cut_44 : decode cX11_cut 44 = .ok (.ireturn, 1) := by decide +kernel
theorem dX11_cut_45 : decode cX11_cut 45 = .ok (.aload_n 0, 1) := by decide +kernel
theorem dX11_cut_46 : decode cX11_cut 46 = .ok (.getfield 19, 3) := by decide +kernel
theorem dX11_cut_49 : decode cX11_cut 49 = .ok (.aload_n 0, 1) := by decide +kernel
theorem dX11_cut_50 : decode cX11_cut 50 = .ok (.getfield 10, 3) := by decide +kernel
theorem dX11_cut_53 : decode cX11_cut 53 = .ok (.invokevirtual 83, 3) := by decide +kernel
theorem dX11_cut_56 : decode cX11_cut 56 = .ok (.aload_n 0, 1) := by decide +kernel
theorem dX11_cut_57 : decode cX11_cut 57 = .ok (.getfield 10, 3) := by decide +kernel
theorem dX11_cut_60 : decode cX11_cut 60 = .ok (.getfield 156, 3) := by decide +kernel
theorem dX11_cut_63 : decode cX11_cut 63 = .ok (.iload_n 1, 1) := by decide +kernel
theorem dX11_cut_64 : decode cX11_cut 64 = .ok (.iload_n 2, 1) := by decide +kernel
theorem dX11_cut_65 : decode cX11_cut 65 = .ok (.invokevirtual 160, 3) := by decide +kernel
theorem dX11_cut_68 : decode cX11_cut 68 = .ok (.ifCond .eq 7, 3) := by decide +kernel
theorem dX11_cut_71 : decode cX11_cut 71 = .ok (.iconst 1, 1) := by decide +kernel
theorem dX11_cut_72 : decode cX11_cut 72 = .ok (.goto 4, 3) := by decide +kernel
theorem dX11_cut_75 : decode cX11_cut 75 = .ok (.iconst 0, 1) := by decide +kernel
theorem dX11_cut_76 : decode cX11_cut 76 = .ok (.istore 4, 2) := by decide +kernel
theorem dX11_cut_78 : decode cX11_cut 78 = .ok (.aload_n 0, 1) := by decide +kernel
theorem dX11_cut_79 : decode cX11_cut 79 = .ok (.getfield 10, 3) := by decide +kernel
theorem dX11_cut_82 : decode cX11_cut 82 = .ok (.getfield 156, 3) := by decide +kernel
theorem dX11_cut_85 : decode cX11_cut 85 = .ok (.iload_n 1, 1) := by decide +kernel
theorem dX11_cut_86 : decode cX11_cut 86 = .ok (.iload_n 2, 1) := by decide +kernel
theorem dX11_cut_87 : decode cX11_cut 87 = .ok (.iload_n 3, 1) := by decide +kernel
theorem dX11_cut_88 : decode cX11_cut 88 = .ok (.iconst 1, 1) := by decide +kernel
theorem dX11_cut_89 : decode cX11_cut 89 = .ok (.if_icmp .ne 7, 3) := by decide +kernel
theorem dX11_cut_92 : decode cX11_cut 92 = .ok (.iconst 1, 1) := by decide +kernel
theorem dX11_cut_93 : decode cX11_cut 93 = .ok (.goto 4, 3) := by decide +kernel
theorem dX11_cut_96 : decode cX11_cut 96 = .ok (.iconst 0, 1) := by decide +kernel
theorem dX11_cut_97 : decode cX11_cut 97 = .ok (.invokevirtual 165, 3) := by decide +kernel
theorem dX11_cut_100 : decode cX11_cut 100 = .ok (.aload_n 0, 1) := by decide +kernel
theorem dX11_cut_101 : decode cX11_cut 101 = .ok (.getfield 10, 3) := by decide +kernel
theorem dX11_cut_104 : decode cX11_cut 104 = .ok (.getfield 156, 3) := by decide +kernel
theorem dX11_cut_107 : decode cX11_cut 107 = .ok (.aload_n 0, 1) := by decide +kernel
theorem dX11_cut_108 : decode cX11_cut 108 = .ok (.getfield 33, 3) := by decide +kernel
theorem dX11_cut_111 : decode cX11_cut 111 = .ok (.iload_n 1, 1) := by decide +kernel
theorem dX11_cut_112 : decode cX11_cut 112 = .ok (.iload_n 2, 1) := by decide +kernel
theorem dX11_cut_113 : decode cX11_cut 113 = .ok (.invokevirtual 144, 3) := by decide +kernel
theorem dX11_cut_116 : decode cX11_cut 116 = .ok (.aload_n 0, 1) := by decide +kernel
theorem dX11_cut_117 : decode cX11_cut 117 = .ok (.getfield 33, 3) := by decide +kernel
theorem dX11_cut_120 : decode cX11_cut 120 = .ok (.iload_n 1, 1) := by decide +kernel
theorem dX11_cut_121 : decode cX11_cut 121 = .ok (.iload_n 2, 1) := by decide +kernel
theorem dX11_cut_122 : decode cX11_cut 122 = .ok (.invokevirtual 147, 3) := by decide +kernel
theorem dX11_cut_125 : decode cX11_cut 125 = .ok (.iload_n 3, 1) := by decide +kernel
theorem dX11_cut_126 : decode cX11_cut 126 = .ok (.iconst 1, 1) := by decide +kernel
theorem dX11_cut_127 : decode cX11_cut 127 = .ok (.if_icmp .ne 7, 3) := by decide +kernel
theorem dX11_cut_130 : decode cX11_cut 130 = .ok (.iconst 1, 1) := by decide +kernel
theorem dX11_cut_131 : decode cX11_cut 131 = .ok (.goto 4, 3) := by decide +kernel
theorem dX11_cut_134 : decode cX11_cut 134 = .ok (.iconst 0, 1) := by decide +kernel
theorem dX11_cut_135 : decode cX11_cut 135 = .ok (.invokevirtual 165, 3) := by decide +kernel
theorem dX11_cut_138 : decode cX11_cut 138 = .ok (.iload 4, 2) := by decide +kernel
theorem dX11_cut_140 : decode cX11_cut 140 = .ok (.ireturn, 1) := by decide +kernel
theorem dX11_cuts_0 : decode cX11_cuts 0 = .ok (.aload_n 0, 1) := by decide +kernel
theorem dX11_cuts_1 : decode cX11_cuts 1 = .ok (.getfield 10, 3) := by decide +kernel
theorem dX11_cuts_4 : decode cX11_cuts 4 = .ok (.getfield 156, 3) := by decide +kernel
theorem dX11_cuts_7 : decode cX11_cuts 7 = .ok (.invokevirtual 169, 3) := by decide +kernel
theorem dX11_cuts_10 : decode cX11_cuts 10 = .ok (.iconst 2, 1) := by decide +kernel
theorem dX11_cuts_11 : decode cX11_cuts 11 = .ok (.idiv, 1) := by decide +kernel
theorem dX11_cuts_12 : decode cX11_cuts 12 = .ok (.ireturn, 1) := by decide +kernel
theorem dX11_open_0 : decode cX11_open 0 = .ok (.aload_n 0, 1) := by decide +kernel
theorem dX11_open_1 : decode cX11_open 1 = .ok (.getfield 33, 3) := by decide +kernel
theorem dX11_open_4 : decode cX11_open 4 = .ok (.invokevirtual 124, 3) := by decide +kernel
theorem dX11_open_7 : decode cX11_open 7 = .ok (.ifCond .eq 6, 3) := by decide +kernel
theorem dX11_open_10 : decode cX11_open 10 = .ok (.bipush (-4), 2) := by decide +kernel
theorem dX11_open_12 : decode cX11_open 12 = .ok (.ireturn, 1) := by decide +kernel
theorem dX11_open_13 : decode cX11_open 13 = .ok (.aload_n 0, 1) := by decide +kernel
theorem dX11_open_14 : decode cX11_open 14 = .ok (.getfield 33, 3) := by decide +kernel
theorem dX11_open_17 : decode cX11_open 17 = .ok (.invokevirtual 128, 3) := by decide +kernel
theorem dX11_open_20 : decode cX11_open 20 = .ok (.bipush 60, 2) := by decide +kernel
theorem dX11_open_22 : decode cX11_open 22 = .ok (.if_icmp .le 6, 3) := by decide +kernel
theorem dX11_open_25 : decode cX11_open 25 = .ok (.bipush (-5), 2) := by decide +kernel
theorem dX11_open_27 : decode cX11_open 27 = .ok (.ireturn, 1) := by decide +kernel
theorem dX11_open_28 : decode cX11_open 28 = .ok (.aload_n 0, 1) := by decide +kernel
theorem dX11_open_29 : decode cX11_open 29 = .ok (.getfield 40, 3) := by decide +kernel
theorem dX11_open_32 : decode cX11_open 32 = .ok (.aload_n 0, 1) := by decide +kernel
theorem dX11_open_33 : decode cX11_open 33 = .ok (.getfield 33, 3) := by decide +kernel
theorem dX11_open_36 : decode cX11_open 36 = .ok (.aload_n 0, 1) := by decide +kernel
theorem dX11_open_37 : decode cX11_open 37 = .ok (.getfield 10, 3) := by decide +kernel
theorem dX11_open_40 : decode cX11_open 40 = .ok (.getfield 156, 3) := by decide +kernel
theorem dX11_open_43 : decode cX11_open 43 = .ok (.invokevirtual 172, 3) := by decide +kernel
theorem dX11_open_46 : decode cX11_open 46 = .ok (.istore_n 1, 1) := by decide +kernel
theorem dX11_open_47 : decode cX11_open 47 = .ok (.iload_n 1, 1) := by decide +kernel
theorem dX11_open_48 : decode cX11_open 48 = .ok (.ifCond .eq 8, 3) := by decide +kernel
theorem dX11_open_51 : decode cX11_open 51 = .ok (.bipush (-20), 2) := by decide +kernel
theorem dX11_open_53 : decode cX11_open 53 = .ok (.iload_n 1, 1) := by decide +kernel
theorem dX11_open_54 : decode cX11_open 54 = .ok (.isub, 1) := by decide +kernel
theorem dX11_open_55 : decode cX11_open 55 = .ok (.ireturn, 1) := by decide +kernel
theorem dX11_open_56 : decode cX11_open 56 = .ok (.aload_n 0, 1) := by decide +kernel
theorem dX11_open_57 : decode cX11_open 57 = .ok (.getfield 40, 3) := by decide +kernel
theorem dX11_open_60 : decode cX11_open 60 = .ok (.invokevirtual 176, 3) := by decide +kernel
theorem dX11_open_63 : decode cX11_open 63 = .ok (.ifCond .ne 6, 3) := by decide +kernel
theorem dX11_open_66 : decode cX11_open 66 = .ok (.bipush (-3), 2) := by decide +kernel
theorem dX11_open_68 : decode cX11_open 68 = .ok (.ireturn, 1) := by decide +kernel
theorem dX11_open_69 : decode cX11_open 69 = .ok (.aload_n 0, 1) := by decide +kernel
theorem dX11_open_70 : decode cX11_open 70 = .ok (.getfield 19, 3) := by decide +kernel
theorem dX11_open_73 : decode cX11_open 73 = .ok (.aload_n 0, 1) := by decide +kernel
theorem dX11_open_74 : decode cX11_open 74 = .ok (.getfield 10, 3) := by decide +kernel
theorem dX11_open_77 : decode cX11_open 77 = .ok (.invokevirtual 83, 3) := by decide +kernel
theorem dX11_open_80 : decode cX11_open 80 = .ok (.aload_n 0, 1) := by decide +kernel
theorem dX11_open_81 : decode cX11_open 81 = .ok (.getfield 40, 3) := by decide +kernel
theorem dX11_open_84 : decode cX11_open 84 = .ok (.aload_n 0, 1) := by decide +kernel
theorem dX11_open_85 : decode cX11_open 85 = .ok (.getfield 10, 3) := by decide +kernel
theorem dX11_open_88 : decode cX11_open 88 = .ok (.getfield 180, 3) := by decide +kernel
theorem dX11_open_91 : decode cX11_open 91 = .ok (.aload_n 0, 1) := by decide +kernel
theorem dX11_open_92 : decode cX11_open 92 = .ok (.getfield 33, 3) := by decide +kernel
theorem dX11_open_95 : decode cX11_open 95 = .ok (.aload_n 0, 1) := by decide +kernel
theorem dX11_open_96 : decode cX11_open 96 = .ok (.getfield 10, 3) := by decide +kernel
theorem dX11_open_99 : decode cX11_open 99 = .ok (.getfield 156, 3) := by decide +kernel
theorem dX11_open_102 : decode cX11_open 102 = .ok (.invokevirtual 183, 3) := by decide +kernel
theorem dX11_open_105 : decode cX11_open 105 = .ok (.aload_n 0, 1) := by decide +kernel
theorem dX11_open_106 : decode cX11_open 106 = .ok (.getfield 10, 3) := by decide +kernel
theorem dX11_open_109 : decode cX11_open 109 = .ok (.getfield 180, 3) := by decide +kernel
theorem dX11_open_112 : decode cX11_open 112 = .ok (.invokevirtual 187, 3) := by decide +kernel
theorem dX11_open_115 : decode cX11_open 115 = .ok (.ireturn, 1) := by decide +kernel
theorem dX11_spot_0 : decode cX11_spot 0 = .ok (.iload_n 1, 1) := by decide +kernel
theorem dX11_spot_1 : decode cX11_spot 1 = .ok (.invokestatic 190, 3) := by decide +kernel
theorem dX11_spot_4 : decode cX11_spot 4 = .ok (.ifCond .eq 17, 3) := by decide +kernel
theorem dX11_spot_7 : decode cX11_spot 7 = .ok (.iload_n 2, 1) := by decide +kernel
theorem dX11_spot_8 : decode cX11_spot 8 = .ok (.invokestatic 190, 3) := by decide +kernel
theorem dX11_spot_11 : decode cX11_spot 11 = .ok (.ifCond .eq 10, 3) := by decide +kernel
theorem dX11_spot_14 : decode cX11_spot 14 = .ok (.iload_n 3, 1) := by decide +kernel
theorem dX11_spot_15 : decode cX11_spot 15 = .ok (.invokestatic 111, 3) := by decide +kernel
theorem dX11_spot_18 : decode cX11_spot 18 = .ok (.ifCond .ne 6, 3) := by decide +kernel
theorem dX11_spot_21 : decode cX11_spot 21 = .ok (.bipush (-3), 2) := by decide +kernel
theorem dX11_spot_23 : decode cX11_spot 23 = .ok (.ireturn, 1) := by decide +kernel
theorem dX11_spot_24 : decode cX11_spot 24 = .ok (.aload_n 0, 1) := by decide +kernel
theorem dX11_spot_25 : decode cX11_spot 25 = .ok (.getfield 10, 3) := by decide +kernel
theorem dX11_spot_28 : decode cX11_spot 28 = .ok (.getfield 180, 3) := by decide +kernel
theorem dX11_spot_31 : decode cX11_spot 31 = .ok (.iload_n 1, 1) := by decide +kernel
theorem dX11_spot_32 : decode cX11_spot 32 = .ok (.iload_n 2, 1) := by decide +kernel
theorem dX11_spot_33 : decode cX11_spot 33 = .ok (.invokevirtual 193, 3) := by decide +kernel
theorem dX11_spot_36 : decode cX11_spot 36 = .ok (.istore 4, 2) := by decide +kernel
theorem dX11_spot_38 : decode cX11_spot 38 = .ok (.iload_n 3, 1) := by decide +kernel
theorem dX11_spot_39 : decode cX11_spot 39 = .ok (.iconst 1, 1) := by decide +kernel
theorem dX11_spot_40 : decode cX11_spot 40 = .ok (.if_icmp .ne 26, 3) := by decide +kernel
theorem dX11_spot_43 : decode cX11_spot 43 = .ok (.iload 4, 2) := by decide +kernel
theorem dX11_spot_45 : decode cX11_spot 45 = .ok (.ifCond .ge 21, 3) := by decide +kernel
theorem dX11_spot_48 : decode cX11_spot 48 = .ok (.aload_n 0, 1) := by decide +kernel
theorem dX11_spot_49 : decode cX11_spot 49 = .ok (.getfield 10, 3) := by decide +kernel
theorem dX11_spot_52 : decode cX11_spot 52 = .ok (.getfield 180, 3) := by decide +kernel
theorem dX11_spot_55 : decode cX11_spot 55 = .ok (.invokevirtual 196, 3) := by decide +kernel
theorem dX11_spot_58 : decode cX11_spot 58 = .ok (.bipush 60, 2) := by decide +kernel
theorem dX11_spot_60 : decode cX11_spot 60 = .ok (.if_icmp .lt 6, 3) := by decide +kernel
theorem dX11_spot_63 : decode cX11_spot 63 = .ok (.bipush (-5), 2) := by decide +kernel
theorem dX11_spot_65 : decode cX11_spot 65 = .ok (.ireturn, 1) := by decide +kernel
theorem dX11_spot_66 : decode cX11_spot 66 = .ok (.aload_n 0, 1) := by decide +kernel
theorem dX11_spot_67 : decode cX11_spot 67 = .ok (.getfield 19, 3) := by decide +kernel
theorem dX11_spot_70 : decode cX11_spot 70 = .ok (.aload_n 0, 1) := by decide +kernel
theorem dX11_spot_71 : decode cX11_spot 71 = .ok (.getfield 10, 3) := by decide +kernel
theorem dX11_spot_74 : decode cX11_spot 74 = .ok (.invokevirtual 83, 3) := by decide +kernel
theorem dX11_spot_77 : decode cX11_spot 77 = .ok (.iload_n 3, 1) := by decide +kernel
theorem dX11_spot_78 : decode cX11_spot 78 = .ok (.iconst 1, 1) := by decide +kernel
theorem dX11_spot_79 : decode cX11_spot 79 = .ok (.if_icmp .ne 21, 3) := by decide +kernel
theorem dX11_spot_82 : decode cX11_spot 82 = .ok (.iload 4, 2) := by decide +kernel
theorem dX11_spot_84 : decode cX11_spot 84 = .ok (.ifCond .ge 16, 3) := by decide +kernel
theorem dX11_spot_87 : decode cX11_spot 87 = .ok (.aload_n 0, 1) := by decide +kernel
theorem dX11_spot_88 : decode cX11_spot 88 = .ok (.getfield 10, 3) := by decide +kernel
theorem dX11_spot_91 : decode cX11_spot 91 = .ok (.getfield 180, 3) := by decide +kernel
theorem dX11_spot_94 : decode cX11_spot 94 = .ok (.iload_n 1, 1) := by decide +kernel
theorem dX11_spot_95 : decode cX11_spot 95 = .ok (.iload_n 2, 1) := by decide +kernel
theorem dX11_spot_96 : decode cX11_spot 96 = .ok (.invokevirtual 197, 3) := by decide +kernel
theorem dX11_spot_99 : decode cX11_spot 99 = .ok (.pop, 1) := by decide +kernel
theorem dX11_spot_100 : decode cX11_spot 100 = .ok (.iload_n 3, 1) := by decide +kernel
theorem dX11_spot_101 : decode cX11_spot 101 = .ok (.ifCond .ne 20, 3) := by decide +kernel
theorem dX11_spot_104 : decode cX11_spot 104 = .ok (.iload 4, 2) := by decide +kernel
theorem dX11_spot_106 : decode cX11_spot 106 = .ok (.ifCond .lt 15, 3) := by decide +kernel
theorem dX11_spot_109 : decode cX11_spot 109 = .ok (.aload_n 0, 1) := by decide +kernel
theorem dX11_spot_110 : decode cX11_spot 110 = .ok (.getfield 10, 3) := by decide +kernel
theorem dX11_spot_113 : decode cX11_spot 113 = .ok (.getfield 180, 3) := by decide +kernel
theorem dX11_spot_116 : decode cX11_spot 116 = .ok (.iload 4, 2) := by decide +kernel
theorem dX11_spot_118 : decode cX11_spot 118 = .ok (.invokevirtual 200, 3) := by decide +kernel
theorem dX11_spot_121 : decode cX11_spot 121 = .ok (.iload 4, 2) := by decide +kernel
theorem dX11_spot_123 : decode cX11_spot 123 = .ok (.ifCond .lt 7, 3) := by decide +kernel
theorem dX11_spot_126 : decode cX11_spot 126 = .ok (.iconst 1, 1) := by decide +kernel
theorem dX11_spot_127 : decode cX11_spot 127 = .ok (.goto 4, 3) := by decide +kernel
theorem dX11_spot_130 : decode cX11_spot 130 = .ok (.iconst 0, 1) := by decide +kernel
theorem dX11_spot_131 : decode cX11_spot 131 = .ok (.ireturn, 1) := by decide +kernel
theorem dX11_crease_0 : decode cX11_crease 0 = .ok (.iload 4, 2) := by decide +kernel
theorem dX11_crease_2 : decode cX11_crease 2 = .ok (.invokestatic 203, 3) := by decide +kernel
theorem dX11_crease_5 : decode cX11_crease 5 = .ok (.istore 5, 2) := by decide +kernel
theorem dX11_crease_7 : decode cX11_crease 7 = .ok (.iload_n 1, 1) := by decide +kernel
theorem dX11_crease_8 : decode cX11_crease 8 = .ok (.invokestatic 190, 3) := by decide +kernel
theorem dX11_crease_11 : decode cX11_crease 11 = .ok (.ifCond .eq 23, 3) := by decide +kernel
theorem dX11_crease_14 : decode cX11_crease 14 = .ok (.iload_n 2, 1) := by decide +kernel
theorem dX11_crease_15 : decode cX11_crease 15 = .ok (.invokestatic 190, 3) := by decide +kernel
theorem dX11_crease_18 : decode cX11_crease 18 = .ok (.ifCond .eq 16, 3) := by decide +kernel
theorem dX11_crease_21 : decode cX11_crease 21 = .ok (.iload_n 3, 1) := by decide +kernel
theorem dX11_crease_22 : decode cX11_crease 22 = .ok (.iconst 4, 1) := by decide +kernel
theorem dX11_crease_23 : decode cX11_crease 23 = .ok (.invokestatic 131, 3) := by decide +kernel
theorem dX11_crease_26 : decode cX11_crease 26 = .ok (.ifCond .eq 8, 3) := by decide +kernel
theorem dX11_crease_29 : decode cX11_crease 29 = .ok (.iload 5, 2) := by decide +kernel
theorem dX11_crease_31 : decode cX11_crease 31 = .ok (.ifCond .ge 6, 3) := by decide +kernel
theorem dX11_crease_34 : decode cX11_crease 34 = .ok (.bipush (-3), 2) := by decide +kernel
theorem dX11_crease_36 : decode cX11_crease 36 = .ok (.ireturn, 1) := by decide +kernel
theorem dX11_crease_37 : decode cX11_crease 37 = .ok (.aload_n 0, 1) := by decide +kernel
theorem dX11_crease_38 : decode cX11_crease 38 = .ok (.getfield 10, 3) := by decide +kernel
theorem dX11_crease_41 : decode cX11_crease 41 = .ok (.getfield 180, 3) := by decide +kernel
theorem dX11_crease_44 : decode cX11_crease 44 = .ok (.iload_n 1, 1) := by decide +kernel
theorem dX11_crease_45 : decode cX11_crease 45 = .ok (.iload_n 2, 1) := by decide +kernel
theorem dX11_crease_46 : decode cX11_crease 46 = .ok (.invokevirtual 193, 3) := by decide +kernel
theorem dX11_crease_49 : decode cX11_crease 49 = .ok (.istore 6, 2) := by decide +kernel
theorem dX11_crease_51 : decode cX11_crease 51 = .ok (.iload 6, 2) := by decide +kernel
theorem dX11_crease_53 : decode cX11_crease 53 = .ok (.ifCond .ge 7, 3) := by decide +kernel
theorem dX11_crease_56 : decode cX11_crease 56 = .ok (.iconst (-1), 1) := by decide +kernel
theorem dX11_crease_57 : decode cX11_crease 57 = .ok (.goto 16, 3) := by decide +kernel
theorem dX11_crease_60 : decode cX11_crease 60 = .ok (.aload_n 0, 1) := by decide +kernel
theorem dX11_crease_61 : decode cX11_crease 61 = .ok (.getfield 10, 3) := by decide +kernel
theorem dX11_crease_64 : decode cX11_crease 64 = .ok (.getfield 180, 3) := by decide +kernel
theorem dX11_crease_67 : decode cX11_crease 67 = .ok (.iload 6, 2) := by decide +kernel
theorem dX11_crease_69 : decode cX11_crease 69 = .ok (.iload_n 3, 1) := by decide +kernel
theorem dX11_crease_70 : decode cX11_crease 70 = .ok (.invokevirtual 206, 3) := by decide +kernel
theorem dX11_crease_73 : decode cX11_crease 73 = .ok (.istore 7, 2) := by decide +kernel
theorem dX11_crease_75 : decode cX11_crease 75 = .ok (.iload 6, 2) := by decide +kernel
theorem dX11_crease_77 : decode cX11_crease 77 = .ok (.ifCond .lt 8, 3) := by decide +kernel
theorem dX11_crease_80 : decode cX11_crease 80 = .ok (.iload 7, 2) := by decide +kernel
theorem dX11_crease_82 : decode cX11_crease 82 = .ok (.ifCond .ge 6, 3) := by decide +kernel
theorem dX11_crease_85 : decode cX11_crease 85 = .ok (.bipush (-4), 2) := by decide +kernel
theorem dX11_crease_87 : decode cX11_crease 87 = .ok (.ireturn, 1) := by decide +kernel
theorem dX11_crease_88 : decode cX11_crease 88 = .ok (.aload_n 0, 1) := by decide +kernel
theorem dX11_crease_89 : decode cX11_crease 89 = .ok (.getfield 19, 3) := by decide +kernel
theorem dX11_crease_92 : decode cX11_crease 92 = .ok (.aload_n 0, 1) := by decide +kernel
theorem dX11_crease_93 : decode cX11_crease 93 = .ok (.getfield 10, 3) := by decide +kernel
theorem dX11_crease_96 : decode cX11_crease 96 = .ok (.invokevirtual 83, 3) := by decide +kernel
theorem dX11_crease_99 : decode cX11_crease 99 = .ok (.aload_n 0, 1) := by decide +kernel
theorem dX11_crease_100 : decode cX11_crease 100 = .ok (.getfield 10, 3) := by decide +kernel
theorem dX11_crease_103 : decode cX11_crease 103 = .ok (.getfield 180, 3) := by decide +kernel
theorem dX11_crease_106 : decode cX11_crease 106 = .ok (.iload 6, 2) := by decide +kernel
theorem dX11_crease_108 : decode cX11_crease 108 = .ok (.iload_n 3, 1) := by decide +kernel
theorem dX11_crease_109 : decode cX11_crease 109 = .ok (.invokevirtual 209, 3) := by decide +kernel
theorem dX11_crease_112 : decode cX11_crease 112 = .ok (.istore 8, 2) := by decide +kernel
theorem dX11_crease_114 : decode cX11_crease 114 = .ok (.aload_n 0, 1) := by decide +kernel
theorem dX11_crease_115 : decode cX11_crease 115 = .ok (.getfield 10, 3) := by decide +kernel
theorem dX11_crease_118 : decode cX11_crease 118 = .ok (.getfield 180, 3) := by decide +kernel
theorem dX11_crease_121 : decode cX11_crease 121 = .ok (.iload 6, 2) := by decide +kernel
theorem dX11_crease_123 : decode cX11_crease 123 = .ok (.iload 7, 2) := by decide +kernel
theorem dX11_crease_125 : decode cX11_crease 125 = .ok (.iload_n 3, 1) := by decide +kernel
theorem dX11_crease_126 : decode cX11_crease 126 = .ok (.iload 5, 2) := by decide +kernel
theorem dX11_crease_128 : decode cX11_crease 128 = .ok (.invokevirtual 212, 3) := by decide +kernel
theorem dX11_crease_131 : decode cX11_crease 131 = .ok (.iload 8, 2) := by decide +kernel
theorem dX11_crease_133 : decode cX11_crease 133 = .ok (.ifCond .ne 7, 3) := by decide +kernel
theorem dX11_crease_136 : decode cX11_crease 136 = .ok (.iconst 5, 1) := by decide +kernel
theorem dX11_crease_137 : decode cX11_crease 137 = .ok (.goto 10, 3) := by decide +kernel
theorem dX11_crease_140 : decode cX11_crease 140 = .ok (.iload 8, 2) := by decide +kernel
theorem dX11_crease_142 : decode cX11_crease 142 = .ok (.iconst 2, 1) := by decide +kernel
theorem dX11_crease_143 : decode cX11_crease 143 = .ok (.isub, 1) := by decide +kernel
theorem dX11_crease_144 : decode cX11_crease 144 = .ok (.invokestatic 153, 3) := by decide +kernel
theorem dX11_crease_147 : decode cX11_crease 147 = .ok (.ireturn, 1) := by decide +kernel
theorem dX11_turn_0 : decode cX11_turn 0 = .ok (.iload_n 1, 1) := by decide +kernel
theorem dX11_turn_1 : decode cX11_turn 1 = .ok (.invokestatic 111, 3) := by decide +kernel
theorem dX11_turn_4 : decode cX11_turn 4 = .ok (.ifCond .ne 6, 3) := by decide +kernel
theorem dX11_turn_7 : decode cX11_turn 7 = .ok (.bipush (-3), 2) := by decide +kernel
theorem dX11_turn_9 : decode cX11_turn 9 = .ok (.ireturn, 1) := by decide +kernel
theorem dX11_turn_10 : decode cX11_turn 10 = .ok (.aload_n 0, 1) := by decide +kernel
theorem dX11_turn_11 : decode cX11_turn 11 = .ok (.getfield 19, 3) := by decide +kernel
theorem dX11_turn_14 : decode cX11_turn 14 = .ok (.aload_n 0, 1) := by decide +kernel
theorem dX11_turn_15 : decode cX11_turn 15 = .ok (.getfield 10, 3) := by decide +kernel
theorem dX11_turn_18 : decode cX11_turn 18 = .ok (.invokevirtual 83, 3) := by decide +kernel
theorem dX11_turn_21 : decode cX11_turn 21 = .ok (.aload_n 0, 1) := by decide +kernel
theorem dX11_turn_22 : decode cX11_turn 22 = .ok (.getfield 75, 3) := by decide +kernel
theorem dX11_turn_25 : decode cX11_turn 25 = .ok (.aload_n 0, 1) := by decide +kernel
theorem dX11_turn_26 : decode cX11_turn 26 = .ok (.getfield 10, 3) := by decide +kernel
theorem dX11_turn_29 : decode cX11_turn 29 = .ok (.getfield 180, 3) := by decide +kernel
theorem dX11_turn_32 : decode cX11_turn 32 = .ok (.invokevirtual 216, 3) := by decide +kernel
theorem dX11_turn_35 : decode cX11_turn 35 = .ok (.aload_n 0, 1) := by decide +kernel
theorem dX11_turn_36 : decode cX11_turn 36 = .ok (.getfield 10, 3) := by decide +kernel
theorem dX11_turn_39 : decode cX11_turn 39 = .ok (.getfield 180, 3) := by decide +kernel
theorem dX11_turn_42 : decode cX11_turn 42 = .ok (.aload_n 0, 1) := by decide +kernel
theorem dX11_turn_43 : decode cX11_turn 43 = .ok (.getfield 75, 3) := by decide +kernel
theorem dX11_turn_46 : decode cX11_turn 46 = .ok (.iload_n 1, 1) := by decide +kernel
theorem dX11_turn_47 : decode cX11_turn 47 = .ok (.ifCond .ne 7, 3) := by decide +kernel
theorem dX11_turn_50 : decode cX11_turn 50 = .ok (.iconst 1, 1) := by decide +kernel
theorem dX11_turn_51 : decode cX11_turn 51 = .ok (.goto 4, 3) := by decide +kernel
theorem dX11_turn_54 : decode cX11_turn 54 = .ok (.iconst 0, 1) := by decide +kernel
theorem dX11_turn_55 : decode cX11_turn 55 = .ok (.iload_n 1, 1) := by decide +kernel
theorem dX11_turn_56 : decode cX11_turn 56 = .ok (.iconst 1, 1) := by decide +kernel
theorem dX11_turn_57 : decode cX11_turn 57 = .ok (.if_icmp .ne 7, 3) := by decide +kernel
theorem dX11_turn_60 : decode cX11_turn 60 = .ok (.iconst 1, 1) := by decide +kernel
theorem dX11_turn_61 : decode cX11_turn 61 = .ok (.goto 4, 3) := by decide +kernel
theorem dX11_turn_64 : decode cX11_turn 64 = .ok (.iconst 0, 1) := by decide +kernel
theorem dX11_turn_65 : decode cX11_turn 65 = .ok (.invokevirtual 220, 3) := by decide +kernel
theorem dX11_turn_68 : decode cX11_turn 68 = .ok (.iconst 0, 1) := by decide +kernel
theorem dX11_turn_69 : decode cX11_turn 69 = .ok (.ireturn, 1) := by decide +kernel
theorem dX11_clear_0 : decode cX11_clear 0 = .ok (.aload_n 0, 1) := by decide +kernel
theorem dX11_clear_1 : decode cX11_clear 1 = .ok (.getfield 19, 3) := by decide +kernel
theorem dX11_clear_4 : decode cX11_clear 4 = .ok (.aload_n 0, 1) := by decide +kernel
theorem dX11_clear_5 : decode cX11_clear 5 = .ok (.getfield 10, 3) := by decide +kernel
theorem dX11_clear_8 : decode cX11_clear 8 = .ok (.invokevirtual 83, 3) := by decide +kernel
theorem dX11_clear_11 : decode cX11_clear 11 = .ok (.aload_n 0, 1) := by decide +kernel
theorem dX11_clear_12 : decode cX11_clear 12 = .ok (.getfield 10, 3) := by decide +kernel
theorem dX11_clear_15 : decode cX11_clear 15 = .ok (.getfield 180, 3) := by decide +kernel
theorem dX11_clear_18 : decode cX11_clear 18 = .ok (.invokevirtual 196, 3) := by decide +kernel
theorem dX11_clear_21 : decode cX11_clear 21 = .ok (.istore_n 1, 1) := by decide +kernel
theorem dX11_clear_22 : decode cX11_clear 22 = .ok (.aload_n 0, 1) := by decide +kernel
theorem dX11_clear_23 : decode cX11_clear 23 = .ok (.getfield 10, 3) := by decide +kernel
theorem dX11_clear_26 : decode cX11_clear 26 = .ok (.getfield 180, 3) := by decide +kernel
theorem dX11_clear_29 : decode cX11_clear 29 = .ok (.invokevirtual 224, 3) := by decide +kernel
theorem dX11_clear_32 : decode cX11_clear 32 = .ok (.iload_n 1, 1) := by decide +kernel
theorem dX11_clear_33 : decode cX11_clear 33 = .ok (.ireturn, 1) := by decide +kernel
theorem dX11_told_0 : decode cX11_told 0 = .ok (.iload_n 1, 1) := by decide +kernel
theorem dX11_told_1 : decode cX11_told 1 = .ok (.aload_n 0, 1) := by decide +kernel
theorem dX11_told_2 : decode cX11_told 2 = .ok (.getfield 10, 3) := by decide +kernel
theorem dX11_told_5 : decode cX11_told 5 = .ok (.getfield 180, 3) := by decide +kernel
theorem dX11_told_8 : decode cX11_told 8 = .ok (.invokevirtual 196, 3) := by decide +kernel
theorem dX11_told_11 : decode cX11_told 11 = .ok (.invokestatic 131, 3) := by decide +kernel
theorem dX11_told_14 : decode cX11_told 14 = .ok (.ifCond .eq 11, 3) := by decide +kernel
theorem dX11_told_17 : decode cX11_told 17 = .ok (.iload_n 2, 1) := by decide +kernel
theorem dX11_told_18 : decode cX11_told 18 = .ok (.iconst 3, 1) := by decide +kernel
theorem dX11_told_19 : decode cX11_told 19 = .ok (.invokestatic 131, 3) := by decide +kernel
theorem dX11_told_22 : decode cX11_told 22 = .ok (.ifCond .ne 6, 3) := by decide +kernel
theorem dX11_told_25 : decode cX11_told 25 = .ok (.bipush (-3), 2) := by decide +kernel
theorem dX11_told_27 : decode cX11_told 27 = .ok (.ireturn, 1) := by decide +kernel
theorem dX11_told_28 : decode cX11_told 28 = .ok (.iload_n 2, 1) := by decide +kernel
theorem dX11_told_29 : decode cX11_told 29 = .ok (.lookupswitch 51 #[(0, 27), (1, 39)], 27) := by decide +kernel
theorem dX11_told_56 : decode cX11_told 56 = .ok (.aload_n 0, 1) := by decide +kernel
theorem dX11_told_57 : decode cX11_told 57 = .ok (.getfield 10, 3) := by decide +kernel
theorem dX11_told_60 : decode cX11_told 60 = .ok (.getfield 180, 3) := by decide +kernel
theorem dX11_told_63 : decode cX11_told 63 = .ok (.iload_n 1, 1) := by decide +kernel
theorem dX11_told_64 : decode cX11_told 64 = .ok (.invokevirtual 227, 3) := by decide +kernel
theorem dX11_told_67 : decode cX11_told 67 = .ok (.ireturn, 1) := by decide +kernel
theorem dX11_told_68 : decode cX11_told 68 = .ok (.aload_n 0, 1) := by decide +kernel
theorem dX11_told_69 : decode cX11_told 69 = .ok (.getfield 10, 3) := by decide +kernel
theorem dX11_told_72 : decode cX11_told 72 = .ok (.getfield 180, 3) := by decide +kernel
theorem dX11_told_75 : decode cX11_told 75 = .ok (.iload_n 1, 1) := by decide +kernel
theorem dX11_told_76 : decode cX11_told 76 = .ok (.invokevirtual 230, 3) := by decide +kernel
theorem dX11_told_79 : decode cX11_told 79 = .ok (.ireturn, 1) := by decide +kernel
theorem dX11_told_80 : decode cX11_told 80 = .ok (.aload_n 0, 1) := by decide +kernel
theorem dX11_told_81 : decode cX11_told 81 = .ok (.getfield 10, 3) := by decide +kernel
theorem dX11_told_84 : decode cX11_told 84 = .ok (.getfield 180, 3) := by decide +kernel
theorem dX11_told_87 : decode cX11_told 87 = .ok (.iload_n 1, 1) := by decide +kernel
theorem dX11_told_88 : decode cX11_told 88 = .ok (.invokevirtual 233, 3) := by decide +kernel
theorem dX11_told_91 : decode cX11_told 91 = .ok (.ireturn, 1) := by decide +kernel
theorem dX11_fold_0 : decode cX11_fold 0 = .ok (.aload_n 0, 1) := by decide +kernel
theorem dX11_fold_1 : decode cX11_fold 1 = .ok (.getfield 54, 3) := by decide +kernel
theorem dX11_fold_4 : decode cX11_fold 4 = .ok (.aload_n 0, 1) := by decide +kernel
theorem dX11_fold_5 : decode cX11_fold 5 = .ok (.getfield 10, 3) := by decide +kernel
theorem dX11_fold_8 : decode cX11_fold 8 = .ok (.getfield 180, 3) := by decide +kernel
theorem dX11_fold_11 : decode cX11_fold 11 = .ok (.aload_n 0, 1) := by decide +kernel
theorem dX11_fold_12 : decode cX11_fold 12 = .ok (.getfield 47, 3) := by decide +kernel
theorem dX11_fold_15 : decode cX11_fold 15 = .ok (.invokevirtual 236, 3) := by decide +kernel
theorem dX11_fold_18 : decode cX11_fold 18 = .ok (.ireturn, 1) := by decide +kernel
theorem dX11_where_0 : decode cX11_where 0 = .ok (.iload_n 1, 1) := by decide +kernel
theorem dX11_where_1 : decode cX11_where 1 = .ok (.aload_n 0, 1) := by decide +kernel
theorem dX11_where_2 : decode cX11_where 2 = .ok (.getfield 10, 3) := by decide +kernel
theorem dX11_where_5 : decode cX11_where 5 = .ok (.getfield 180, 3) := by decide +kernel
theorem dX11_where_8 : decode cX11_where 8 = .ok (.invokevirtual 196, 3) := by decide +kernel
theorem dX11_where_11 : decode cX11_where 11 = .ok (.invokestatic 131, 3) := by decide +kernel
theorem dX11_where_14 : decode cX11_where 14 = .ok (.ifCond .eq 11, 3) := by decide +kernel
theorem dX11_where_17 : decode cX11_where 17 = .ok (.iload_n 2, 1) := by decide +kernel
theorem dX11_where_18 : decode cX11_where 18 = .ok (.iconst 5, 1) := by decide +kernel
theorem dX11_where_19 : decode cX11_where 19 = .ok (.invokestatic 131, 3) := by decide +kernel
theorem dX11_where_22 : decode cX11_where 22 = .ok (.ifCond .ne 6, 3) := by decide +kernel
theorem dX11_where_25 : decode cX11_where 25 = .ok (.bipush (-3), 2) := by decide +kernel
theorem dX11_where_27 : decode cX11_where 27 = .ok (.ireturn, 1) := by decide +kernel
theorem dX11_where_28 : decode cX11_where 28 = .ok (.aload_n 0, 1) := by decide +kernel
theorem dX11_where_29 : decode cX11_where 29 = .ok (.getfield 54, 3) := by decide +kernel
theorem dX11_where_32 : decode cX11_where 32 = .ok (.aload_n 0, 1) := by decide +kernel
theorem dX11_where_33 : decode cX11_where 33 = .ok (.getfield 10, 3) := by decide +kernel
theorem dX11_where_36 : decode cX11_where 36 = .ok (.getfield 180, 3) := by decide +kernel
theorem dX11_where_39 : decode cX11_where 39 = .ok (.aload_n 0, 1) := by decide +kernel
theorem dX11_where_40 : decode cX11_where 40 = .ok (.getfield 47, 3) := by decide +kernel
theorem dX11_where_43 : decode cX11_where 43 = .ok (.invokevirtual 236, 3) := by decide +kernel
theorem dX11_where_46 : decode cX11_where 46 = .ok (.ifCond .eq 6, 3) := by decide +kernel
theorem dX11_where_49 : decode cX11_where 49 = .ok (.bipush (-4), 2) := by decide +kernel
theorem dX11_where_51 : decode cX11_where 51 = .ok (.ireturn, 1) := by decide +kernel
theorem dX11_where_52 : decode cX11_where 52 = .ok (.aload_n 0, 1) := by decide +kernel
theorem dX11_where_53 : decode cX11_where 53 = .ok (.getfield 54, 3) := by decide +kernel
theorem dX11_where_56 : decode cX11_where 56 = .ok (.iload_n 1, 1) := by decide +kernel
theorem dX11_where_57 : decode cX11_where 57 = .ok (.iload_n 2, 1) := by decide +kernel
theorem dX11_where_58 : decode cX11_where 58 = .ok (.invokevirtual 240, 3) := by decide +kernel
theorem dX11_where_61 : decode cX11_where 61 = .ok (.istore_n 3, 1) := by decide +kernel
theorem dX11_where_62 : decode cX11_where 62 = .ok (.iload_n 3, 1) := by decide +kernel
theorem dX11_where_63 : decode cX11_where 63 = .ok (.ifCond .ge 11, 3) := by decide +kernel
theorem dX11_where_66 : decode cX11_where 66 = .ok (.iload_n 3, 1) := by decide +kernel
theorem dX11_where_67 : decode cX11_where 67 = .ok (.sipush 1000, 3) := by decide +kernel
theorem dX11_where_70 : decode cX11_where 70 = .ok (.iadd, 1) := by decide +kernel
theorem dX11_where_71 : decode cX11_where 71 = .ok (.goto 4, 3) := by decide +kernel
theorem dX11_where_74 : decode cX11_where 74 = .ok (.iload_n 3, 1) := by decide +kernel
theorem dX11_where_75 : decode cX11_where 75 = .ok (.ireturn, 1) := by decide +kernel
theorem dX11_closed_0 : decode cX11_closed 0 = .ok (.aload_n 0, 1) := by decide +kernel
theorem dX11_closed_1 : decode cX11_closed 1 = .ok (.getfield 54, 3) := by decide +kernel
theorem dX11_closed_4 : decode cX11_closed 4 = .ok (.aload_n 0, 1) := by decide +kernel
theorem dX11_closed_5 : decode cX11_closed 5 = .ok (.getfield 10, 3) := by decide +kernel
theorem dX11_closed_8 : decode cX11_closed 8 = .ok (.getfield 180, 3) := by decide +kernel
theorem dX11_closed_11 : decode cX11_closed 11 = .ok (.aload_n 0, 1) := by decide +kernel
theorem dX11_closed_12 : decode cX11_closed 12 = .ok (.getfield 47, 3) := by decide +kernel
theorem dX11_closed_15 : decode cX11_closed 15 = .ok (.invokevirtual 236, 3) := by decide +kernel
theorem dX11_closed_18 : decode cX11_closed 18 = .ok (.ifCond .ne 17, 3) := by decide +kernel
theorem dX11_closed_21 : decode cX11_closed 21 = .ok (.aload_n 0, 1) := by decide +kernel
theorem dX11_closed_22 : decode cX11_closed 22 = .ok (.getfield 54, 3) := by decide +kernel
theorem dX11_closed_25 : decode cX11_closed 25 = .ok (.invokevirtual 243, 3) := by decide +kernel
theorem dX11_closed_28 : decode cX11_closed 28 = .ok (.ifCond .eq 7, 3) := by decide +kernel
theorem dX11_closed_31 : decode cX11_closed 31 = .ok (.iconst 1, 1) := by decide +kernel
theorem dX11_closed_32 : decode cX11_closed 32 = .ok (.goto 4, 3) := by decide +kernel
theorem dX11_closed_35 : decode cX11_closed 35 = .ok (.iconst 0, 1) := by decide +kernel
theorem dX11_closed_36 : decode cX11_closed 36 = .ok (.ireturn, 1) := by decide +kernel
theorem dX11_form_0 : decode cX11_form 0 = .ok (.iload_n 1, 1) := by decide +kernel
theorem dX11_form_1 : decode cX11_form 1 = .ok (.ifCond .ge 6, 3) := by decide +kernel
theorem dX11_form_4 : decode cX11_form 4 = .ok (.bipush (-3), 2) := by decide +kernel
theorem dX11_form_6 : decode cX11_form 6 = .ok (.ireturn, 1) := by decide +kernel
theorem dX11_form_7 : decode cX11_form 7 = .ok (.aload_n 0, 1) := by decide +kernel
theorem dX11_form_8 : decode cX11_form 8 = .ok (.getfield 68, 3) := by decide +kernel
theorem dX11_form_11 : decode cX11_form 11 = .ok (.aload_n 0, 1) := by decide +kernel
theorem dX11_form_12 : decode cX11_form 12 = .ok (.getfield 10, 3) := by decide +kernel
theorem dX11_form_15 : decode cX11_form 15 = .ok (.getfield 180, 3) := by decide +kernel
theorem dX11_form_18 : decode cX11_form 18 = .ok (.invokevirtual 246, 3) := by decide +kernel
theorem dX11_form_21 : decode cX11_form 21 = .ok (.iload_n 1, 1) := by decide +kernel
theorem dX11_form_22 : decode cX11_form 22 = .ok (.aload_n 0, 1) := by decide +kernel
theorem dX11_form_23 : decode cX11_form 23 = .ok (.getfield 68, 3) := by decide +kernel
theorem dX11_form_26 : decode cX11_form 26 = .ok (.invokevirtual 248, 3) := by decide +kernel
theorem dX11_form_29 : decode cX11_form 29 = .ok (.if_icmp .ge 14, 3) := by decide +kernel
theorem dX11_form_32 : decode cX11_form 32 = .ok (.aload_n 0, 1) := by decide +kernel
theorem dX11_form_33 : decode cX11_form 33 = .ok (.getfield 68, 3) := by decide +kernel
theorem dX11_form_36 : decode cX11_form 36 = .ok (.iload_n 1, 1) := by decide +kernel
theorem dX11_form_37 : decode cX11_form 37 = .ok (.invokevirtual 251, 3) := by decide +kernel
theorem dX11_form_40 : decode cX11_form 40 = .ok (.goto 4, 3) := by decide +kernel
theorem dX11_form_43 : decode cX11_form 43 = .ok (.iconst (-1), 1) := by decide +kernel
theorem dX11_form_44 : decode cX11_form 44 = .ok (.ireturn, 1) := by decide +kernel
theorem dX11_same_0 : decode cX11_same 0 = .ok (.aload_n 0, 1) := by decide +kernel
theorem dX11_same_1 : decode cX11_same 1 = .ok (.getfield 68, 3) := by decide +kernel
theorem dX11_same_4 : decode cX11_same 4 = .ok (.aload_n 0, 1) := by decide +kernel
theorem dX11_same_5 : decode cX11_same 5 = .ok (.getfield 10, 3) := by decide +kernel
theorem dX11_same_8 : decode cX11_same 8 = .ok (.getfield 180, 3) := by decide +kernel
theorem dX11_same_11 : decode cX11_same 11 = .ok (.invokevirtual 246, 3) := by decide +kernel
theorem dX11_same_14 : decode cX11_same 14 = .ok (.aload_n 0, 1) := by decide +kernel
theorem dX11_same_15 : decode cX11_same 15 = .ok (.getfield 68, 3) := by decide +kernel
theorem dX11_same_18 : decode cX11_same 18 = .ok (.invokevirtual 254, 3) := by decide +kernel
theorem dX11_same_21 : decode cX11_same 21 = .ok (.ireturn, 1) := by decide +kernel
theorem dX11_shelve_0 : decode cX11_shelve 0 = .ok (.iload_n 1, 1) := by decide +kernel
theorem dX11_shelve_1 : decode cX11_shelve 1 = .ok (.bipush 6, 2) := by decide +kernel
theorem dX11_shelve_3 : decode cX11_shelve 3 = .ok (.invokestatic 131, 3) := by decide +kernel
theorem dX11_shelve_6 : decode cX11_shelve 6 = .ok (.ifCond .ne 6, 3) := by decide +kernel
theorem dX11_shelve_9 : decode cX11_shelve 9 = .ok (.bipush (-3), 2) := by decide +kernel
theorem dX11_shelve_11 : decode cX11_shelve 11 = .ok (.ireturn, 1) := by decide +kernel
theorem dX11_shelve_12 : decode cX11_shelve 12 = .ok (.aload_n 0, 1) := by decide +kernel
theorem dX11_shelve_13 : decode cX11_shelve 13 = .ok (.getfield 25, 3) := by decide +kernel
theorem dX11_shelve_16 : decode cX11_shelve 16 = .ok (.iload_n 1, 1) := by decide +kernel
theorem dX11_shelve_17 : decode cX11_shelve 17 = .ok (.aaload, 1) := by decide +kernel
theorem dX11_shelve_18 : decode cX11_shelve 18 = .ok (.aload_n 0, 1) := by decide +kernel
theorem dX11_shelve_19 : decode cX11_shelve 19 = .ok (.getfield 10, 3) := by decide +kernel
theorem dX11_shelve_22 : decode cX11_shelve 22 = .ok (.getfield 180, 3) := by decide +kernel
theorem dX11_shelve_25 : decode cX11_shelve 25 = .ok (.invokevirtual 216, 3) := by decide +kernel
theorem dX11_shelve_28 : decode cX11_shelve 28 = .ok (.aload_n 0, 1) := by decide +kernel
theorem dX11_shelve_29 : decode cX11_shelve 29 = .ok (.getfield 10, 3) := by decide +kernel
theorem dX11_shelve_32 : decode cX11_shelve 32 = .ok (.getfield 180, 3) := by decide +kernel
theorem dX11_shelve_35 : decode cX11_shelve 35 = .ok (.invokevirtual 196, 3) := by decide +kernel
theorem dX11_shelve_38 : decode cX11_shelve 38 = .ok (.ireturn, 1) := by decide +kernel
theorem dX11_alike_0 : decode cX11_alike 0 = .ok (.iload_n 1, 1) := by decide +kernel
theorem dX11_alike_1 : decode cX11_alike 1 = .ok (.bipush 6, 2) := by decide +kernel
theorem dX11_alike_3 : decode cX11_alike 3 = .ok (.invokestatic 131, 3) := by decide +kernel
theorem dX11_alike_6 : decode cX11_alike 6 = .ok (.ifCond .ne 6, 3) := by decide +kernel
theorem dX11_alike_9 : decode cX11_alike 9 = .ok (.bipush (-3), 2) := by decide +kernel
theorem dX11_alike_11 : decode cX11_alike 11 = .ok (.ireturn, 1) := by decide +kernel
theorem dX11_alike_12 : decode cX11_alike 12 = .ok (.aload_n 0, 1) := by decide +kernel
theorem dX11_alike_13 : decode cX11_alike 13 = .ok (.getfield 68, 3) := by decide +kernel
theorem dX11_alike_16 : decode cX11_alike 16 = .ok (.aload_n 0, 1) := by decide +kernel
theorem dX11_alike_17 : decode cX11_alike 17 = .ok (.getfield 10, 3) := by decide +kernel
theorem dX11_alike_20 : decode cX11_alike 20 = .ok (.getfield 180, 3) := by decide +kernel
theorem dX11_alike_23 : decode cX11_alike 23 = .ok (.invokevirtual 246, 3) := by decide +kernel
theorem dX11_alike_26 : decode cX11_alike 26 = .ok (.aload_n 0, 1) := by decide +kernel
theorem dX11_alike_27 : decode cX11_alike 27 = .ok (.getfield 72, 3) := by decide +kernel
theorem dX11_alike_30 : decode cX11_alike 30 = .ok (.aload_n 0, 1) := by decide +kernel
theorem dX11_alike_31 : decode cX11_alike 31 = .ok (.getfield 25, 3) := by decide +kernel
theorem dX11_alike_34 : decode cX11_alike 34 = .ok (.iload_n 1, 1) := by decide +kernel
theorem dX11_alike_35 : decode cX11_alike 35 = .ok (.aaload, 1) := by decide +kernel
theorem dX11_alike_36 : decode cX11_alike 36 = .ok (.invokevirtual 246, 3) := by decide +kernel
theorem dX11_alike_39 : decode cX11_alike 39 = .ok (.aload_n 0, 1) := by decide +kernel
theorem dX11_alike_40 : decode cX11_alike 40 = .ok (.getfield 68, 3) := by decide +kernel
theorem dX11_alike_43 : decode cX11_alike 43 = .ok (.aload_n 0, 1) := by decide +kernel
theorem dX11_alike_44 : decode cX11_alike 44 = .ok (.getfield 72, 3) := by decide +kernel
theorem dX11_alike_47 : decode cX11_alike 47 = .ok (.invokevirtual 257, 3) := by decide +kernel
theorem dX11_alike_50 : decode cX11_alike 50 = .ok (.ifCond .eq 7, 3) := by decide +kernel
theorem dX11_alike_53 : decode cX11_alike 53 = .ok (.iconst 1, 1) := by decide +kernel
theorem dX11_alike_54 : decode cX11_alike 54 = .ok (.goto 4, 3) := by decide +kernel
theorem dX11_alike_57 : decode cX11_alike 57 = .ok (.iconst 0, 1) := by decide +kernel
theorem dX11_alike_58 : decode cX11_alike 58 = .ok (.ireturn, 1) := by decide +kernel
theorem dX11_wraps_0 : decode cX11_wraps 0 = .ok (.aload_n 0, 1) := by decide +kernel
theorem dX11_wraps_1 : decode cX11_wraps 1 = .ok (.getfield 33, 3) := by decide +kernel
theorem dX11_wraps_4 : decode cX11_wraps 4 = .ok (.invokevirtual 124, 3) := by decide +kernel
theorem dX11_wraps_7 : decode cX11_wraps 7 = .ok (.ifCond .eq 6, 3) := by decide +kernel
theorem dX11_wraps_10 : decode cX11_wraps 10 = .ok (.bipush (-4), 2) := by decide +kernel
theorem dX11_wraps_12 : decode cX11_wraps 12 = .ok (.ireturn, 1) := by decide +kernel
theorem dX11_wraps_13 : decode cX11_wraps 13 = .ok (.aload_n 0, 1) := by decide +kernel
theorem dX11_wraps_14 : decode cX11_wraps 14 = .ok (.getfield 61, 3) := by decide +kernel
theorem dX11_wraps_17 : decode cX11_wraps 17 = .ok (.aload_n 0, 1) := by decide +kernel
theorem dX11_wraps_18 : decode cX11_wraps 18 = .ok (.getfield 10, 3) := by decide +kernel
theorem dX11_wraps_21 : decode cX11_wraps 21 = .ok (.getfield 180, 3) := by decide +kernel
theorem dX11_wraps_24 : decode cX11_wraps 24 = .ok (.aload_n 0, 1) := by decide +kernel
theorem dX11_wraps_25 : decode cX11_wraps 25 = .ok (.getfield 47, 3) := by decide +kernel
theorem dX11_wraps_28 : decode cX11_wraps 28 = .ok (.aload_n 0, 1) := by decide +kernel
theorem dX11_wraps_29 : decode cX11_wraps 29 = .ok (.getfield 33, 3) := by decide +kernel
theorem dX11_wraps_32 : decode cX11_wraps 32 = .ok (.invokevirtual 261, 3) := by decide +kernel
theorem dX11_wraps_35 : decode cX11_wraps 35 = .ok (.aload_n 0, 1) := by decide +kernel
theorem dX11_wraps_36 : decode cX11_wraps 36 = .ok (.getfield 61, 3) := by decide +kernel
theorem dX11_wraps_39 : decode cX11_wraps 39 = .ok (.invokevirtual 265, 3) := by decide +kernel
theorem dX11_wraps_42 : decode cX11_wraps 42 = .ok (.ireturn, 1) := by decide +kernel
theorem dX11_way_0 : decode cX11_way 0 = .ok (.iload_n 1, 1) := by decide +kernel
theorem dX11_way_1 : decode cX11_way 1 = .ok (.ifCond .lt 11, 3) := by decide +kernel
theorem dX11_way_4 : decode cX11_way 4 = .ok (.iload_n 2, 1) := by decide +kernel
theorem dX11_way_5 : decode cX11_way 5 = .ok (.iconst 3, 1) := by decide +kernel
theorem dX11_way_6 : decode cX11_way 6 = .ok (.invokestatic 131, 3) := by decide +kernel
theorem dX11_way_9 : decode cX11_way 9 = .ok (.ifCond .ne 6, 3) := by decide +kernel
theorem dX11_way_12 : decode cX11_way 12 = .ok (.bipush (-3), 2) := by decide +kernel
theorem dX11_way_14 : decode cX11_way 14 = .ok (.ireturn, 1) := by decide +kernel
theorem dX11_way_15 : decode cX11_way 15 = .ok (.aload_n 0, 1) := by decide +kernel
theorem dX11_way_16 : decode cX11_way 16 = .ok (.getfield 33, 3) := by decide +kernel
theorem dX11_way_19 : decode cX11_way 19 = .ok (.invokevirtual 124, 3) := by decide +kernel
theorem dX11_way_22 : decode cX11_way 22 = .ok (.ifCond .eq 6, 3) := by decide +kernel
theorem dX11_way_25 : decode cX11_way 25 = .ok (.bipush (-4), 2) := by decide +kernel
theorem dX11_way_27 : decode cX11_way 27 = .ok (.ireturn, 1) := by decide +kernel
theorem dX11_way_28 : decode cX11_way 28 = .ok (.aload_n 0, 1) := by decide +kernel
theorem dX11_way_29 : decode cX11_way 29 = .ok (.getfield 61, 3) := by decide +kernel
theorem dX11_way_32 : decode cX11_way 32 = .ok (.aload_n 0, 1) := by decide +kernel
theorem dX11_way_33 : decode cX11_way 33 = .ok (.getfield 10, 3) := by decide +kernel
theorem dX11_way_36 : decode cX11_way 36 = .ok (.getfield 180, 3) := by decide +kernel
theorem dX11_way_39 : decode cX11_way 39 = .ok (.aload_n 0, 1) := by decide +kernel
theorem dX11_way_40 : decode cX11_way 40 = .ok (.getfield 47, 3) := by decide +kernel
theorem dX11_way_43 : decode cX11_way 43 = .ok (.aload_n 0, 1) := by decide +kernel
theorem dX11_way_44 : decode cX11_way 44 = .ok (.getfield 33, 3) := by decide +kernel
theorem dX11_way_47 : decode cX11_way 47 = .ok (.invokevirtual 261, 3) := by decide +kernel
theorem dX11_way_50 : decode cX11_way 50 = .ok (.iload_n 1, 1) := by decide +kernel
theorem dX11_way_51 : decode cX11_way 51 = .ok (.aload_n 0, 1) := by decide +kernel
theorem dX11_way_52 : decode cX11_way 52 = .ok (.getfield 61, 3) := by decide +kernel
theorem dX11_way_55 : decode cX11_way 55 = .ok (.invokevirtual 265, 3) := by decide +kernel
theorem dX11_way_58 : decode cX11_way 58 = .ok (.if_icmp .lt 5, 3) := by decide +kernel
theorem dX11_way_61 : decode cX11_way 61 = .ok (.iconst (-1), 1) := by decide +kernel
theorem dX11_way_62 : decode cX11_way 62 = .ok (.ireturn, 1) := by decide +kernel
theorem dX11_way_63 : decode cX11_way 63 = .ok (.iload_n 2, 1) := by decide +kernel
theorem dX11_way_64 : decode cX11_way 64 = .ok (.lookupswitch 46 #[(0, 28), (1, 37)], 28) := by decide +kernel
theorem dX11_way_92 : decode cX11_way 92 = .ok (.aload_n 0, 1) := by decide +kernel
theorem dX11_way_93 : decode cX11_way 93 = .ok (.getfield 61, 3) := by decide +kernel
theorem dX11_way_96 : decode cX11_way 96 = .ok (.iload_n 1, 1) := by decide +kernel
theorem dX11_way_97 : decode cX11_way 97 = .ok (.invokevirtual 268, 3) := by decide +kernel
theorem dX11_way_100 : decode cX11_way 100 = .ok (.ireturn, 1) := by decide +kernel
theorem dX11_way_101 : decode cX11_way 101 = .ok (.aload_n 0, 1) := by decide +kernel
theorem dX11_way_102 : decode cX11_way 102 = .ok (.getfield 61, 3) := by decide +kernel
theorem dX11_way_105 : decode cX11_way 105 = .ok (.iload_n 1, 1) := by decide +kernel
theorem dX11_way_106 : decode cX11_way 106 = .ok (.invokevirtual 271, 3) := by decide +kernel
theorem dX11_way_109 : decode cX11_way 109 = .ok (.ireturn, 1) := by decide +kernel
theorem dX11_way_110 : decode cX11_way 110 = .ok (.aload_n 0, 1) := by decide +kernel
theorem dX11_way_111 : decode cX11_way 111 = .ok (.getfield 61, 3) := by decide +kernel
theorem dX11_way_114 : decode cX11_way 114 = .ok (.iload_n 1, 1) := by decide +kernel
theorem dX11_way_115 : decode cX11_way 115 = .ok (.invokevirtual 274, 3) := by decide +kernel
theorem dX11_way_118 : decode cX11_way 118 = .ok (.ifCond .eq 7, 3) := by decide +kernel
theorem dX11_way_121 : decode cX11_way 121 = .ok (.iconst 1, 1) := by decide +kernel
theorem dX11_way_122 : decode cX11_way 122 = .ok (.goto 4, 3) := by decide +kernel
theorem dX11_way_125 : decode cX11_way 125 = .ok (.iconst 0, 1) := by decide +kernel
theorem dX11_way_126 : decode cX11_way 126 = .ok (.ireturn, 1) := by decide +kernel
theorem dX11_undo_0 : decode cX11_undo 0 = .ok (.aload_n 0, 1) := by decide +kernel
theorem dX11_undo_1 : decode cX11_undo 1 = .ok (.getfield 19, 3) := by decide +kernel
theorem dX11_undo_4 : decode cX11_undo 4 = .ok (.invokevirtual 277, 3) := by decide +kernel
theorem dX11_undo_7 : decode cX11_undo 7 = .ok (.ifCond .ne 6, 3) := by decide +kernel
theorem dX11_undo_10 : decode cX11_undo 10 = .ok (.bipush (-4), 2) := by decide +kernel
theorem dX11_undo_12 : decode cX11_undo 12 = .ok (.ireturn, 1) := by decide +kernel
theorem dX11_undo_13 : decode cX11_undo 13 = .ok (.aload_n 0, 1) := by decide +kernel
theorem dX11_undo_14 : decode cX11_undo 14 = .ok (.getfield 19, 3) := by decide +kernel
theorem dX11_undo_17 : decode cX11_undo 17 = .ok (.aload_n 0, 1) := by decide +kernel
theorem dX11_undo_18 : decode cX11_undo 18 = .ok (.getfield 10, 3) := by decide +kernel
theorem dX11_undo_21 : decode cX11_undo 21 = .ok (.invokevirtual 278, 3) := by decide +kernel
theorem dX11_undo_24 : decode cX11_undo 24 = .ok (.aload_n 0, 1) := by decide +kernel
theorem dX11_undo_25 : decode cX11_undo 25 = .ok (.getfield 33, 3) := by decide +kernel
theorem dX11_undo_28 : decode cX11_undo 28 = .ok (.aload_n 0, 1) := by decide +kernel
theorem dX11_undo_29 : decode cX11_undo 29 = .ok (.getfield 10, 3) := by decide +kernel
theorem dX11_undo_32 : decode cX11_undo 32 = .ok (.getfield 87, 3) := by decide +kernel
theorem dX11_undo_35 : decode cX11_undo 35 = .ok (.invokevirtual 281, 3) := by decide +kernel
theorem dX11_undo_38 : decode cX11_undo 38 = .ok (.aload_n 0, 1) := by decide +kernel
theorem dX11_undo_39 : decode cX11_undo 39 = .ok (.getfield 19, 3) := by decide +kernel
theorem dX11_undo_42 : decode cX11_undo 42 = .ok (.invokevirtual 277, 3) := by decide +kernel
theorem dX11_undo_45 : decode cX11_undo 45 = .ok (.ireturn, 1) := by decide +kernel
theorem dX11_count_0 : decode cX11_count 0 = .ok (.iload_n 1, 1) := by decide +kernel
theorem dX11_count_1 : decode cX11_count 1 = .ok (.tableswitch 87 0 4 #[35, 46, 57, 68, 79], 35) := by decide +kernel
theorem dX11_count_36 : decode cX11_count 36 = .ok (.aload_n 0, 1) := by decide +kernel
theorem dX11_count_37 : decode cX11_count 37 = .ok (.getfield 10, 3) := by decide +kernel
theorem dX11_count_40 : decode cX11_count 40 = .ok (.getfield 87, 3) := by decide +kernel
theorem dX11_count_43 : decode cX11_count 43 = .ok (.invokevirtual 284, 3) := by decide +kernel
theorem dX11_count_46 : decode cX11_count 46 = .ok (.ireturn, 1) := by decide +kernel
theorem dX11_count_47 : decode cX11_count 47 = .ok (.aload_n 0, 1) := by decide +kernel
theorem dX11_count_48 : decode cX11_count 48 = .ok (.getfield 10, 3) := by decide +kernel
theorem dX11_count_51 : decode cX11_count 51 = .ok (.getfield 87, 3) := by decide +kernel
theorem dX11_count_54 : decode cX11_count 54 = .ok (.invokevirtual 287, 3) := by decide +kernel
theorem dX11_count_57 : decode cX11_count 57 = .ok (.ireturn, 1) := by decide +kernel
theorem dX11_count_58 : decode cX11_count 58 = .ok (.aload_n 0, 1) := by decide +kernel
theorem dX11_count_59 : decode cX11_count 59 = .ok (.getfield 10, 3) := by decide +kernel
theorem dX11_count_62 : decode cX11_count 62 = .ok (.getfield 180, 3) := by decide +kernel
theorem dX11_count_65 : decode cX11_count 65 = .ok (.invokevirtual 196, 3) := by decide +kernel
theorem dX11_count_68 : decode cX11_count 68 = .ok (.ireturn, 1) := by decide +kernel
theorem dX11_count_69 : decode cX11_count 69 = .ok (.aload_n 0, 1) := by decide +kernel
theorem dX11_count_70 : decode cX11_count 70 = .ok (.getfield 10, 3) := by decide +kernel
theorem dX11_count_73 : decode cX11_count 73 = .ok (.getfield 180, 3) := by decide +kernel
theorem dX11_count_76 : decode cX11_count 76 = .ok (.invokevirtual 187, 3) := by decide +kernel
theorem dX11_count_79 : decode cX11_count 79 = .ok (.ireturn, 1) := by decide +kernel
theorem dX11_count_80 : decode cX11_count 80 = .ok (.aload_n 0, 1) := by decide +kernel
theorem dX11_count_81 : decode cX11_count 81 = .ok (.getfield 19, 3) := by decide +kernel
theorem dX11_count_84 : decode cX11_count 84 = .ok (.invokevirtual 277, 3) := by decide +kernel
theorem dX11_count_87 : decode cX11_count 87 = .ok (.ireturn, 1) := by decide +kernel
theorem dX11_count_88 : decode cX11_count 88 = .ok (.bipush (-3), 2) := by decide +kernel
theorem dX11_count_90 : decode cX11_count 90 = .ok (.ireturn, 1) := by decide +kernel
theorem dX11_bodyHasChanged_0 : decode cX11_bodyHasChanged 0 = .ok (.aload_n 0, 1) := by decide +kernel
theorem dX11_bodyHasChanged_1 : decode cX11_bodyHasChanged 1 = .ok (.getfield 10, 3) := by decide +kernel
theorem dX11_bodyHasChanged_4 : decode cX11_bodyHasChanged 4 = .ok (.getfield 156, 3) := by decide +kernel
theorem dX11_bodyHasChanged_7 : decode cX11_bodyHasChanged 7 = .ok (.invokevirtual 290, 3) := by decide +kernel
theorem dX11_bodyHasChanged_10 : decode cX11_bodyHasChanged 10 = .ok (.aload_n 0, 1) := by decide +kernel
theorem dX11_bodyHasChanged_11 : decode cX11_bodyHasChanged 11 = .ok (.getfield 33, 3) := by decide +kernel
theorem dX11_bodyHasChanged_14 : decode cX11_bodyHasChanged 14 = .ok (.aload_n 0, 1) := by decide +kernel
theorem dX11_bodyHasChanged_15 : decode cX11_bodyHasChanged 15 = .ok (.getfield 10, 3) := by decide +kernel
theorem dX11_bodyHasChanged_18 : decode cX11_bodyHasChanged 18 = .ok (.getfield 87, 3) := by decide +kernel
theorem dX11_bodyHasChanged_21 : decode cX11_bodyHasChanged 21 = .ok (.invokevirtual 281, 3) := by decide +kernel
theorem dX11_bodyHasChanged_24 : decode cX11_bodyHasChanged 24 = .ok (.return_, 1) := by decide +kernel
theorem dX11_isWithin_0 : decode cX11_isWithin 0 = .ok (.iload_n 0, 1) := by decide +kernel
theorem dX11_isWithin_1 : decode cX11_isWithin 1 = .ok (.ifCond .lt 12, 3) := by decide +kernel
theorem dX11_isWithin_4 : decode cX11_isWithin 4 = .ok (.iload_n 0, 1) := by decide +kernel
theorem dX11_isWithin_5 : decode cX11_isWithin 5 = .ok (.iload_n 1, 1) := by decide +kernel
theorem dX11_isWithin_6 : decode cX11_isWithin 6 = .ok (.if_icmp .ge 7, 3) := by decide +kernel
theorem dX11_isWithin_9 : decode cX11_isWithin 9 = .ok (.iconst 1, 1) := by decide +kernel
theorem dX11_isWithin_10 : decode cX11_isWithin 10 = .ok (.goto 4, 3) := by decide +kernel
theorem dX11_isWithin_13 : decode cX11_isWithin 13 = .ok (.iconst 0, 1) := by decide +kernel
theorem dX11_isWithin_14 : decode cX11_isWithin 14 = .ok (.ireturn, 1) := by decide +kernel
theorem dX11_isLayer_0 : decode cX11_isLayer 0 = .ok (.iload_n 0, 1) := by decide +kernel
theorem dX11_isLayer_1 : decode cX11_isLayer 1 = .ok (.iconst 4, 1) := by decide +kernel
theorem dX11_isLayer_2 : decode cX11_isLayer 2 = .ok (.invokestatic 131, 3) := by decide +kernel
theorem dX11_isLayer_5 : decode cX11_isLayer 5 = .ok (.ireturn, 1) := by decide +kernel
theorem dX11_isSwitch_0 : decode cX11_isSwitch 0 = .ok (.iload_n 0, 1) := by decide +kernel
theorem dX11_isSwitch_1 : decode cX11_isSwitch 1 = .ok (.ifCond .eq 8, 3) := by decide +kernel
theorem dX11_isSwitch_4 : decode cX11_isSwitch 4 = .ok (.iload_n 0, 1) := by decide +kernel
theorem dX11_isSwitch_5 : decode cX11_isSwitch 5 = .ok (.iconst 1, 1) := by decide +kernel
theorem dX11_isSwitch_6 : decode cX11_isSwitch 6 = .ok (.if_icmp .ne 7, 3) := by decide +kernel
theorem dX11_isSwitch_9 : decode cX11_isSwitch 9 = .ok (.iconst 1, 1) := by decide +kernel
theorem dX11_isSwitch_10 : decode cX11_isSwitch 10 = .ok (.goto 4, 3) := by decide +kernel
theorem dX11_isSwitch_13 : decode cX11_isSwitch 13 = .ok (.iconst 0, 1) := by decide +kernel
theorem dX11_isSwitch_14 : decode cX11_isSwitch 14 = .ok (.ireturn, 1) := by decide +kernel
theorem dX11_isLength_0 : decode cX11_isLength 0 = .ok (.iload_n 0, 1) := by decide +kernel
theorem dX11_isLength_1 : decode cX11_isLength 1 = .ok (.iconst 1, 1) := by decide +kernel
theorem dX11_isLength_2 : decode cX11_isLength 2 = .ok (.if_icmp .lt 12, 3) := by decide +kernel
theorem dX11_isLength_5 : decode cX11_isLength 5 = .ok (.iload_n 0, 1) := by decide +kernel
theorem dX11_isLength_6 : decode cX11_isLength 6 = .ok (.iconst 4, 1) := by decide +kernel
theorem dX11_isLength_7 : decode cX11_isLength 7 = .ok (.if_icmp .gt 7, 3) := by decide +kernel
theorem dX11_isLength_10 : decode cX11_isLength 10 = .ok (.iconst 1, 1) := by decide +kernel
theorem dX11_isLength_11 : decode cX11_isLength 11 = .ok (.goto 4, 3) := by decide +kernel
theorem dX11_isLength_14 : decode cX11_isLength 14 = .ok (.iconst 0, 1) := by decide +kernel
theorem dX11_isLength_15 : decode cX11_isLength 15 = .ok (.ireturn, 1) := by decide +kernel
theorem dX11_isOnTable_0 : decode cX11_isOnTable 0 = .ok (.iload_n 0, 1) := by decide +kernel
theorem dX11_isOnTable_1 : decode cX11_isOnTable 1 = .ok (.bipush (-30), 2) := by decide +kernel
theorem dX11_isOnTable_3 : decode cX11_isOnTable 3 = .ok (.if_icmp .lt 13, 3) := by decide +kernel
theorem dX11_isOnTable_6 : decode cX11_isOnTable 6 = .ok (.iload_n 0, 1) := by decide +kernel
theorem dX11_isOnTable_7 : decode cX11_isOnTable 7 = .ok (.bipush 30, 2) := by decide +kernel
theorem dX11_isOnTable_9 : decode cX11_isOnTable 9 = .ok (.if_icmp .gt 7, 3) := by decide +kernel
theorem dX11_isOnTable_12 : decode cX11_isOnTable 12 = .ok (.iconst 1, 1) := by decide +kernel
theorem dX11_isOnTable_13 : decode cX11_isOnTable 13 = .ok (.goto 4, 3) := by decide +kernel
theorem dX11_isOnTable_16 : decode cX11_isOnTable 16 = .ok (.iconst 0, 1) := by decide +kernel
theorem dX11_isOnTable_17 : decode cX11_isOnTable 17 = .ok (.ireturn, 1) := by decide +kernel
theorem dX11_arePlaces_0 : decode cX11_arePlaces 0 = .ok (.iload_n 1, 1) := by decide +kernel
theorem dX11_arePlaces_1 : decode cX11_arePlaces 1 = .ok (.ifCond .lt 19, 3) := by decide +kernel
theorem dX11_arePlaces_4 : decode cX11_arePlaces 4 = .ok (.iload_n 0, 1) := by decide +kernel
theorem dX11_arePlaces_5 : decode cX11_arePlaces 5 = .ok (.ifCond .lt 15, 3) := by decide +kernel
theorem dX11_arePlaces_8 : decode cX11_arePlaces 8 = .ok (.iload_n 0, 1) := by decide +kernel
theorem dX11_arePlaces_9 : decode cX11_arePlaces 9 = .ok (.bipush 16, 2) := by decide +kernel
theorem dX11_arePlaces_11 : decode cX11_arePlaces 11 = .ok (.iload_n 1, 1) := by decide +kernel
theorem dX11_arePlaces_12 : decode cX11_arePlaces 12 = .ok (.isub, 1) := by decide +kernel
theorem dX11_arePlaces_13 : decode cX11_arePlaces 13 = .ok (.if_icmp .gt 7, 3) := by decide +kernel
theorem dX11_arePlaces_16 : decode cX11_arePlaces 16 = .ok (.iconst 1, 1) := by decide +kernel
theorem dX11_arePlaces_17 : decode cX11_arePlaces 17 = .ok (.goto 4, 3) := by decide +kernel
theorem dX11_arePlaces_20 : decode cX11_arePlaces 20 = .ok (.iconst 0, 1) := by decide +kernel
theorem dX11_arePlaces_21 : decode cX11_arePlaces 21 = .ok (.ireturn, 1) := by decide +kernel
theorem dX11_toldStep_0 : decode cX11_toldStep 0 = .ok (.iload_n 0, 1) := by decide +kernel
theorem dX11_toldStep_1 : decode cX11_toldStep 1 = .ok (.ifCond .ge 8, 3) := by decide +kernel
theorem dX11_toldStep_4 : decode cX11_toldStep 4 = .ok (.bipush 9, 2) := by decide +kernel
theorem dX11_toldStep_6 : decode cX11_toldStep 6 = .ok (.goto 4, 3) := by decide +kernel
theorem dX11_toldStep_9 : decode cX11_toldStep 9 = .ok (.iload_n 0, 1) := by decide +kernel
theorem dX11_toldStep_10 : decode cX11_toldStep 10 = .ok (.ireturn, 1) := by decide +kernel
theorem dX11_creaseMeant_0 : decode cX11_creaseMeant 0 = .ok (.iload_n 0, 1) := by decide +kernel
theorem dX11_creaseMeant_1 : decode cX11_creaseMeant 1 = .ok (.tableswitch 63 0 9 #[59, 61, 63, 63, 63, 55, 63, 63, 63, 57], 55) := by decide +kernel
theorem dX11_creaseMeant_56 : decode cX11_creaseMeant 56 = .ok (.iconst 0, 1) := by decide +kernel
theorem dX11_creaseMeant_57 : decode cX11_creaseMeant 57 = .ok (.ireturn, 1) := by decide +kernel
theorem dX11_creaseMeant_58 : decode cX11_creaseMeant 58 = .ok (.iconst 1, 1) := by decide +kernel
theorem dX11_creaseMeant_59 : decode cX11_creaseMeant 59 = .ok (.ireturn, 1) := by decide +kernel
theorem dX11_creaseMeant_60 : decode cX11_creaseMeant 60 = .ok (.iconst 2, 1) := by decide +kernel
theorem dX11_creaseMeant_61 : decode cX11_creaseMeant 61 = .ok (.ireturn, 1) := by decide +kernel
theorem dX11_creaseMeant_62 : decode cX11_creaseMeant 62 = .ok (.iconst 3, 1) := by decide +kernel
theorem dX11_creaseMeant_63 : decode cX11_creaseMeant 63 = .ok (.ireturn, 1) := by decide +kernel
theorem dX11_creaseMeant_64 : decode cX11_creaseMeant 64 = .ok (.iconst (-1), 1) := by decide +kernel
theorem dX11_creaseMeant_65 : decode cX11_creaseMeant 65 = .ok (.ireturn, 1) := by decide +kernel
theorem dX12_init_0 : decode cX12_init 0 = .ok (.aload_n 0, 1) := by decide +kernel
theorem dX12_init_1 : decode cX12_init 1 = .ok (.invokespecial 1, 3) := by decide +kernel
theorem dX12_init_4 : decode cX12_init 4 = .ok (.aload_n 0, 1) := by decide +kernel
theorem dX12_init_5 : decode cX12_init 5 = .ok (.iconst 4, 1) := by decide +kernel
theorem dX12_init_6 : decode cX12_init 6 = .ok (.newarray .int, 2) := by decide +kernel
theorem dX12_init_8 : decode cX12_init 8 = .ok (.putfield 7, 3) := by decide +kernel
theorem dX12_init_11 : decode cX12_init 11 = .ok (.aload_n 0, 1) := by decide +kernel
theorem dX12_init_12 : decode cX12_init 12 = .ok (.bipush 64, 2) := by decide +kernel
theorem dX12_init_14 : decode cX12_init 14 = .ok (.newarray .int, 2) := by decide +kernel
theorem dX12_init_16 : decode cX12_init 16 = .ok (.putfield 13, 3) := by decide +kernel
theorem dX12_init_19 : decode cX12_init 19 = .ok (.aload_n 0, 1) := by decide +kernel
theorem dX12_init_20 : decode cX12_init 20 = .ok (.sipush 1536, 3) := by decide +kernel
theorem dX12_init_23 : decode cX12_init 23 = .ok (.newarray .int, 2) := by decide +kernel
theorem dX12_init_25 : decode cX12_init 25 = .ok (.putfield 16, 3) := by decide +kernel
theorem dX12_init_28 : decode cX12_init 28 = .ok (.aload_n 0, 1) := by decide +kernel
theorem dX12_init_29 : decode cX12_init 29 = .ok (.bipush 60, 2) := by decide +kernel
theorem dX12_init_31 : decode cX12_init 31 = .ok (.newarray .int, 2) := by decide +kernel
theorem dX12_init_33 : decode cX12_init 33 = .ok (.putfield 19, 3) := by decide +kernel
theorem dX12_init_36 : decode cX12_init 36 = .ok (.aload_n 0, 1) := by decide +kernel
theorem dX12_init_37 : decode cX12_init 37 = .ok (.bipush 60, 2) := by decide +kernel
theorem dX12_init_39 : decode cX12_init 39 = .ok (.newarray .int, 2) := by decide +kernel
theorem dX12_init_41 : decode cX12_init 41 = .ok (.putfield 22, 3) := by decide +kernel
theorem dX12_init_44 : decode cX12_init 44 = .ok (.aload_n 0, 1) := by decide +kernel
theorem dX12_init_45 : decode cX12_init 45 = .ok (.bipush 60, 2) := by decide +kernel
theorem dX12_init_47 : decode cX12_init 47 = .ok (.newarray .int, 2) := by decide +kernel
theorem dX12_init_49 : decode cX12_init 49 = .ok (.putfield 25, 3) := by decide +kernel
theorem dX12_init_52 : decode cX12_init 52 = .ok (.aload_n 0, 1) := by decide +kernel
theorem dX12_init_53 : decode cX12_init 53 = .ok (.bipush 60, 2) := by decide +kernel
theorem dX12_init_55 : decode cX12_init 55 = .ok (.newarray .int, 2) := by decide +kernel
theorem dX12_init_57 : decode cX12_init 57 = .ok (.putfield 28, 3) := by decide +kernel
theorem dX12_init_60 : decode cX12_init 60 = .ok (.aload_n 0, 1) := by decide +kernel
theorem dX12_init_61 : decode cX12_init 61 = .ok (.bipush 6, 2) := by decide +kernel
theorem dX12_init_63 : decode cX12_init 63 = .ok (.newarray .int, 2) := by decide +kernel
theorem dX12_init_65 : decode cX12_init 65 = .ok (.putfield 31, 3) := by decide +kernel
theorem dX12_init_68 : decode cX12_init 68 = .ok (.aload_n 0, 1) := by decide +kernel
theorem dX12_init_69 : decode cX12_init 69 = .ok (.sipush 1440, 3) := by decide +kernel
theorem dX12_init_72 : decode cX12_init 72 = .ok (.newarray .int, 2) := by decide +kernel
theorem dX12_init_74 : decode cX12_init 74 = .ok (.putfield 34, 3) := by decide +kernel
theorem dX12_init_77 : decode cX12_init 77 = .ok (.aload_n 0, 1) := by decide +kernel
theorem dX12_init_78 : decode cX12_init 78 = .ok (.sipush 14880, 3) := by decide +kernel
theorem dX12_init_81 : decode cX12_init 81 = .ok (.newarray .int, 2) := by decide +kernel
theorem dX12_init_83 : decode cX12_init 83 = .ok (.putfield 37, 3) := by decide +kernel
theorem dX12_init_86 : decode cX12_init 86 = .ok (.aload_n 0, 1) := by decide +kernel
theorem dX12_init_87 : decode cX12_init 87 = .ok (.sipush 216, 3) := by decide +kernel
theorem dX12_init_90 : decode cX12_init 90 = .ok (.newarray .int, 2) := by decide +kernel
theorem dX12_init_92 : decode cX12_init 92 = .ok (.putfield 40, 3) := by decide +kernel
theorem dX12_init_95 : decode cX12_init 95 = .ok (.aload_n 0, 1) := by decide +kernel
theorem dX12_init_96 : decode cX12_init 96 = .ok (.bipush 8, 2) := by decide +kernel
theorem dX12_init_98 : decode cX12_init 98 = .ok (.newarray .int, 2) := by decide +kernel
theorem dX12_init_100 : decode cX12_init 100 = .ok (.putfield 43, 3) := by decide +kernel
theorem dX12_init_103 : decode cX12_init 103 = .ok (.aload_n 0, 1) := by decide +kernel
theorem dX12_init_104 : decode cX12_init 104 = .ok (.sipush 384, 3) := by decide +kernel
theorem dX12_init_107 : decode cX12_init 107 = .ok (.newarray .int, 2) := by decide +kernel
theorem dX12_init_109 : decode cX12_init 109 = .ok (.putfield 46, 3) := by decide +kernel
theorem dX12_init_112 : decode cX12_init 112 = .ok (.aload_n 0, 1) := by decide +kernel
theorem dX12_init_113 : decode cX12_init 113 = .ok (.sipush 384, 3) := by decide +kernel
theorem dX12_init_116 : decode cX12_init 116 = .ok (.newarray .int, 2) := by decide +kernel
theorem dX12_init_118 : decode cX12_init 118 = .ok (.putfield 49, 3) := by decide +kernel
theorem dX12_init_121 : decode cX12_init 121 = .ok (.aload_n 0, 1) := by decide +kernel
theorem dX12_init_122 : decode cX12_init 122 = .ok (.sipush 384, 3) := by decide +kernel
theorem dX12_init_125 : decode cX12_init 125 = .ok (.newarray .int, 2) := by decide +kernel
theorem dX12_init_127 : decode cX12_init 127 = .ok (.putfield 52, 3) := by decide +kernel
theorem dX12_init_130 : decode cX12_init 130 = .ok (.aload_n 0, 1) := by decide +kernel
theorem dX12_init_131 : decode cX12_init 131 = .ok (.sipush 384, 3) := by decide +kernel
theorem dX12_init_134 : decode cX12_init 134 = .ok (.newarray .int, 2) := by decide +kernel
theorem dX12_init_136 : decode cX12_init 136 = .ok (.putfield 55, 3) := by decide +kernel
theorem dX12_init_139 : decode cX12_init 139 = .ok (.aload_n 0, 1) := by decide +kernel
theorem dX12_init_140 : decode cX12_init 140 = .ok (.sipush 384, 3) := by decide +kernel
theorem dX12_init_143 : decode cX12_init 143 = .ok (.newarray .int, 2) := by decide +kernel
theorem dX12_init_145 : decode cX12_init 145 = .ok (.putfield 58, 3) := by decide +kernel
theorem dX12_init_148 : decode cX12_init 148 = .ok (.aload_n 0, 1) := by decide +kernel
theorem dX12_init_149 : decode cX12_init 149 = .ok (.sipush 384, 3) := by decide +kernel
theorem dX12_init_152 : decode cX12_init 152 = .ok (.newarray .int, 2) := by decide +kernel
theorem dX12_init_154 : decode cX12_init 154 = .ok (.putfield 61, 3) := by decide +kernel
theorem dX12_init_157 : decode cX12_init 157 = .ok (.aload_n 0, 1) := by decide +kernel
theorem dX12_init_158 : decode cX12_init 158 = .ok (.sipush 384, 3) := by decide +kernel
theorem dX12_init_161 : decode cX12_init 161 = .ok (.newarray .int, 2) := by decide +kernel
theorem dX12_init_163 : decode cX12_init 163 = .ok (.putfield 64, 3) := by decide +kernel
theorem dX12_init_166 : decode cX12_init 166 = .ok (.aload_n 0, 1) := by decide +kernel
theorem dX12_init_167 : decode cX12_init 167 = .ok (.bipush 60, 2) := by decide +kernel
theorem dX12_init_169 : decode cX12_init 169 = .ok (.newarray .int, 2) := by decide +kernel
theorem dX12_init_171 : decode cX12_init 171 = .ok (.putfield 67, 3) := by decide +kernel
theorem dX12_init_174 : decode cX12_init 174 = .ok (.aload_n 0, 1) := by decide +kernel
theorem dX12_init_175 : decode cX12_init 175 = .ok (.bipush 60, 2) := by decide +kernel
theorem dX12_init_177 : decode cX12_init 177 = .ok (.newarray .int, 2) := by decide +kernel
theorem dX12_init_179 : decode cX12_init 179 = .ok (.putfield 70, 3) := by decide +kernel
theorem dX12_init_182 : decode cX12_init 182 = .ok (.aload_n 0, 1) := by decide +kernel
theorem dX12_init_183 : decode cX12_init 183 = .ok (.bipush 60, 2) := by decide +kernel
theorem dX12_init_185 : decode cX12_init 185 = .ok (.newarray .int, 2) := by decide +kernel
theorem dX12_init_187 : decode cX12_init 187 = .ok (.putfield 73, 3) := by decide +kernel
theorem dX12_init_190 : decode cX12_init 190 = .ok (.aload_n 0, 1) := by decide +kernel
theorem dX12_init_191 : decode cX12_init 191 = .ok (.bipush 60, 2) := by decide +kernel
theorem dX12_init_193 : decode cX12_init 193 = .ok (.newarray .int, 2) := by decide +kernel
theorem dX12_init_195 : decode cX12_init 195 = .ok (.putfield 76, 3) := by decide +kernel
theorem dX12_init_198 : decode cX12_init 198 = .ok (.aload_n 0, 1) := by decide +kernel
theorem dX12_init_199 : decode cX12_init 199 = .ok (.bipush 60, 2) := by decide +kernel
theorem dX12_init_201 : decode cX12_init 201 = .ok (.newarray .int, 2) := by decide +kernel
theorem dX12_init_203 : decode cX12_init 203 = .ok (.putfield 79, 3) := by decide +kernel
theorem dX12_init_206 : decode cX12_init 206 = .ok (.aload_n 0, 1) := by decide +kernel
theorem dX12_init_207 : decode cX12_init 207 = .ok (.bipush 60, 2) := by decide +kernel
theorem dX12_init_209 : decode cX12_init 209 = .ok (.newarray .int, 2) := by decide +kernel
theorem dX12_init_211 : decode cX12_init 211 = .ok (.putfield 82, 3) := by decide +kernel
theorem dX12_init_214 : decode cX12_init 214 = .ok (.aload_n 0, 1) := by decide +kernel
theorem dX12_init_215 : decode cX12_init 215 = .ok (.bipush 60, 2) := by decide +kernel
theorem dX12_init_217 : decode cX12_init 217 = .ok (.newarray .int, 2) := by decide +kernel
theorem dX12_init_219 : decode cX12_init 219 = .ok (.putfield 85, 3) := by decide +kernel
theorem dX12_init_222 : decode cX12_init 222 = .ok (.aload_n 0, 1) := by decide +kernel
theorem dX12_init_223 : decode cX12_init 223 = .ok (.bipush 60, 2) := by decide +kernel
theorem dX12_init_225 : decode cX12_init 225 = .ok (.newarray .int, 2) := by decide +kernel
theorem dX12_init_227 : decode cX12_init 227 = .ok (.putfield 88, 3) := by decide +kernel
theorem dX12_init_230 : decode cX12_init 230 = .ok (.aload_n 0, 1) := by decide +kernel
theorem dX12_init_231 : decode cX12_init 231 = .ok (.bipush 60, 2) := by decide +kernel
theorem dX12_init_233 : decode cX12_init 233 = .ok (.newarray .int, 2) := by decide +kernel
theorem dX12_init_235 : decode cX12_init 235 = .ok (.putfield 91, 3) := by decide +kernel
theorem dX12_init_238 : decode cX12_init 238 = .ok (.aload_n 0, 1) := by decide +kernel
theorem dX12_init_239 : decode cX12_init 239 = .ok (.sipush 240, 3) := by decide +kernel
theorem dX12_init_242 : decode cX12_init 242 = .ok (.newarray .int, 2) := by decide +kernel
theorem dX12_init_244 : decode cX12_init 244 = .ok (.putfield 94, 3) := by decide +kernel
theorem dX12_init_247 : decode cX12_init 247 = .ok (.aload_n 0, 1) := by decide +kernel
theorem dX12_init_248 : decode cX12_init 248 = .ok (.sipush 240, 3) := by decide +kernel
theorem dX12_init_251 : decode cX12_init 251 = .ok (.newarray .int, 2) := by decide +kernel
theorem dX12_init_253 : decode cX12_init 253 = .ok (.putfield 97, 3) := by decide +kernel
theorem dX12_init_256 : decode cX12_init 256 = .ok (.aload_n 0, 1) := by decide +kernel
theorem dX12_init_257 : decode cX12_init 257 = .ok (.bipush 60, 2) := by decide +kernel
theorem dX12_init_259 : decode cX12_init 259 = .ok (.newarray .int, 2) := by decide +kernel
theorem dX12_init_261 : decode cX12_init 261 = .ok (.putfield 100, 3) := by decide +kernel
theorem dX12_init_264 : decode cX12_init 264 = .ok (.aload_n 0, 1) := by decide +kernel
theorem dX12_init_265 : decode cX12_init 265 = .ok (.bipush 60, 2) := by decide +kernel
theorem dX12_init_267 : decode cX12_init 267 = .ok (.newarray .int, 2) := by decide +kernel
theorem dX12_init_269 : decode cX12_init 269 = .ok (.putfield 103, 3) := by decide +kernel
theorem dX12_init_272 : decode cX12_init 272 = .ok (.aload_n 0, 1) := by decide +kernel
theorem dX12_init_273 : decode cX12_init 273 = .ok (.sipush 384, 3) := by decide +kernel
theorem dX12_init_276 : decode cX12_init 276 = .ok (.newarray .boolean, 2) := by decide +kernel
theorem dX12_init_278 : decode cX12_init 278 = .ok (.putfield 106, 3) := by decide +kernel
end
section
theorem dX12_init_281 : decode cX12_init 281 = .ok (.aload_n 0, 1) := by decide +kernel
theorem dX12_init_282 : decode cX12_init 282 = .ok (.bipush 60, 2) := by decide +kernel
theorem dX12_init_284 : decode cX12_init 284 = .ok (.newarray .int, 2) := by decide +kernel
theorem dX12_init_286 : decode cX12_init 286 = .ok (.putfield 110, 3) := by decide +kernel
theorem dX12_init_289 : decode cX12_init 289 = .ok (.return_, 1) := by decide +kernel
theorem dX12_in_0 : decode cX12_in 0 = .ok (.iload_n 0, 1) := by decide +kernel
theorem dX12_in_1 : decode cX12_in 1 = .ok (.iload_n 1, 1) := by decide +kernel
theorem dX12_in_2 : decode cX12_in 2 = .ok (.if_icmp .lt 12, 3) := by decide +kernel
theorem dX12_in_5 : decode cX12_in 5 = .ok (.iload_n 0, 1) := by decide +kernel
theorem dX12_in_6 : decode cX12_in 6 = .ok (.iload_n 2, 1) := by decide +kernel
theorem dX12_in_7 : decode cX12_in 7 = .ok (.if_icmp .gt 7, 3) := by decide +kernel
theorem dX12_in_10 : decode cX12_in 10 = .ok (.iconst 1, 1) := by decide +kernel
theorem dX12_in_11 : decode cX12_in 11 = .ok (.goto 4, 3) := by decide +kernel
theorem dX12_in_14 : decode cX12_in 14 = .ok (.iconst 0, 1) := by decide +kernel
theorem dX12_in_15 : decode cX12_in 15 = .ok (.ireturn, 1) := by decide +kernel
theorem dX12_write_0 : decode cX12_write 0 = .ok (.iconst 0, 1) := by decide +kernel
theorem dX12_write_1 : decode cX12_write 1 = .ok (.istore_n 3, 1) := by decide +kernel
theorem dX12_write_2 : decode cX12_write 2 = .ok (.iload_n 3, 1) := by decide +kernel
theorem dX12_write_3 : decode cX12_write 3 = .ok (.iload_n 2, 1) := by decide +kernel
theorem dX12_write_4 : decode cX12_write 4 = .ok (.if_icmp .ge 31, 3) := by decide +kernel
theorem dX12_write_7 : decode cX12_write 7 = .ok (.aload_n 0, 1) := by decide +kernel
theorem dX12_write_8 : decode cX12_write 8 = .ok (.getfield 37, 3) := by decide +kernel
theorem dX12_write_11 : decode cX12_write 11 = .ok (.aload_n 0, 1) := by decide +kernel
theorem dX12_write_12 : decode cX12_write 12 = .ok (.getfield 117, 3) := by decide +kernel
theorem dX12_write_15 : decode cX12_write 15 = .ok (.aload_n 1, 1) := by decide +kernel
theorem dX12_write_16 : decode cX12_write 16 = .ok (.iload_n 3, 1) := by decide +kernel
theorem dX12_write_17 : decode cX12_write 17 = .ok (.iaload, 1) := by decide +kernel
theorem dX12_write_18 : decode cX12_write 18 = .ok (.iastore, 1) := by decide +kernel
theorem dX12_write_19 : decode cX12_write 19 = .ok (.aload_n 0, 1) := by decide +kernel
theorem dX12_write_20 : decode cX12_write 20 = .ok (.dup, 1) := by decide +kernel
theorem dX12_write_21 : decode cX12_write 21 = .ok (.getfield 117, 3) := by decide +kernel
theorem dX12_write_24 : decode cX12_write 24 = .ok (.iconst 1, 1) := by decide +kernel
theorem dX12_write_25 : decode cX12_write 25 = .ok (.iadd, 1) := by decide +kernel
theorem dX12_write_26 : decode cX12_write 26 = .ok (.putfield 117, 3) := by decide +kernel
theorem dX12_write_29 : decode cX12_write 29 = .ok (.iinc 3 1, 3) := by decide +kernel
theorem dX12_write_32 : decode cX12_write 32 = .ok (.goto (-30), 3) := by decide +kernel
theorem dX12_write_35 : decode cX12_write 35 = .ok (.return_, 1) := by decide +kernel
theorem dX12_read_0 : decode cX12_read 0 = .ok (.iconst 0, 1) := by decide +kernel
theorem dX12_read_1 : decode cX12_read 1 = .ok (.istore_n 3, 1) := by decide +kernel
theorem dX12_read_2 : decode cX12_read 2 = .ok (.iload_n 3, 1) := by decide +kernel
theorem dX12_read_3 : decode cX12_read 3 = .ok (.iload_n 2, 1) := by decide +kernel
theorem dX12_read_4 : decode cX12_read 4 = .ok (.if_icmp .ge 31, 3) := by decide +kernel
theorem dX12_read_7 : decode cX12_read 7 = .ok (.aload_n 1, 1) := by decide +kernel
theorem dX12_read_8 : decode cX12_read 8 = .ok (.iload_n 3, 1) := by decide +kernel
theorem dX12_read_9 : decode cX12_read 9 = .ok (.aload_n 0, 1) := by decide +kernel
theorem dX12_read_10 : decode cX12_read 10 = .ok (.getfield 37, 3) := by decide +kernel
theorem dX12_read_13 : decode cX12_read 13 = .ok (.aload_n 0, 1) := by decide +kernel
theorem dX12_read_14 : decode cX12_read 14 = .ok (.getfield 117, 3) := by decide +kernel
theorem dX12_read_17 : decode cX12_read 17 = .ok (.iaload, 1) := by decide +kernel
theorem dX12_read_18 : decode cX12_read 18 = .ok (.iastore, 1) := by decide +kernel
theorem dX12_read_19 : decode cX12_read 19 = .ok (.aload_n 0, 1) := by decide +kernel
theorem dX12_read_20 : decode cX12_read 20 = .ok (.dup, 1) := by decide +kernel
theorem dX12_read_21 : decode cX12_read 21 = .ok (.getfield 117, 3) := by decide +kernel
theorem dX12_read_24 : decode cX12_read 24 = .ok (.iconst 1, 1) := by decide +kernel
theorem dX12_read_25 : decode cX12_read 25 = .ok (.iadd, 1) := by decide +kernel
theorem dX12_read_26 : decode cX12_read 26 = .ok (.putfield 117, 3) := by decide +kernel
theorem dX12_read_29 : decode cX12_read 29 = .ok (.iinc 3 1, 3) := by decide +kernel
theorem dX12_read_32 : decode cX12_read 32 = .ok (.goto (-30), 3) := by decide +kernel
theorem dX12_read_35 : decode cX12_read 35 = .ok (.return_, 1) := by decide +kernel
theorem dX12_keep_0 : decode cX12_keep 0 = .ok (.aload_n 0, 1) := by decide +kernel
theorem dX12_keep_1 : decode cX12_keep 1 = .ok (.sipush 1860, 3) := by decide +kernel
theorem dX12_keep_4 : decode cX12_keep 4 = .ok (.aload_n 0, 1) := by decide +kernel
theorem dX12_keep_5 : decode cX12_keep 5 = .ok (.getfield 120, 3) := by decide +kernel
theorem dX12_keep_8 : decode cX12_keep 8 = .ok (.imul, 1) := by decide +kernel
theorem dX12_keep_9 : decode cX12_keep 9 = .ok (.putfield 117, 3) := by decide +kernel
theorem dX12_keep_12 : decode cX12_keep 12 = .ok (.aload_n 0, 1) := by decide +kernel
theorem dX12_keep_13 : decode cX12_keep 13 = .ok (.aload_n 0, 1) := by decide +kernel
theorem dX12_keep_14 : decode cX12_keep 14 = .ok (.getfield 7, 3) := by decide +kernel
theorem dX12_keep_17 : decode cX12_keep 17 = .ok (.iconst 4, 1) := by decide +kernel
theorem dX12_keep_18 : decode cX12_keep 18 = .ok (.invokevirtual 123, 3) := by decide +kernel
theorem dX12_keep_21 : decode cX12_keep 21 = .ok (.aload_n 0, 1) := by decide +kernel
theorem dX12_keep_22 : decode cX12_keep 22 = .ok (.aload_n 0, 1) := by decide +kernel
theorem dX12_keep_23 : decode cX12_keep 23 = .ok (.getfield 13, 3) := by decide +kernel
theorem dX12_keep_26 : decode cX12_keep 26 = .ok (.bipush 64, 2) := by decide +kernel
theorem dX12_keep_28 : decode cX12_keep 28 = .ok (.invokevirtual 123, 3) := by decide +kernel
theorem dX12_keep_31 : decode cX12_keep 31 = .ok (.aload_n 0, 1) := by decide +kernel
theorem dX12_keep_32 : decode cX12_keep 32 = .ok (.aload_n 0, 1) := by decide +kernel
theorem dX12_keep_33 : decode cX12_keep 33 = .ok (.getfield 16, 3) := by decide +kernel
theorem dX12_keep_36 : decode cX12_keep 36 = .ok (.sipush 1536, 3) := by decide +kernel
theorem dX12_keep_39 : decode cX12_keep 39 = .ok (.invokevirtual 123, 3) := by decide +kernel
theorem dX12_keep_42 : decode cX12_keep 42 = .ok (.aload_n 0, 1) := by decide +kernel
theorem dX12_keep_43 : decode cX12_keep 43 = .ok (.getfield 37, 3) := by decide +kernel
theorem dX12_keep_46 : decode cX12_keep 46 = .ok (.aload_n 0, 1) := by decide +kernel
theorem dX12_keep_47 : decode cX12_keep 47 = .ok (.getfield 117, 3) := by decide +kernel
theorem dX12_keep_50 : decode cX12_keep 50 = .ok (.aload_n 0, 1) := by decide +kernel
theorem dX12_keep_51 : decode cX12_keep 51 = .ok (.getfield 127, 3) := by decide +kernel
theorem dX12_keep_54 : decode cX12_keep 54 = .ok (.iastore, 1) := by decide +kernel
theorem dX12_keep_55 : decode cX12_keep 55 = .ok (.aload_n 0, 1) := by decide +kernel
theorem dX12_keep_56 : decode cX12_keep 56 = .ok (.dup, 1) := by decide +kernel
theorem dX12_keep_57 : decode cX12_keep 57 = .ok (.getfield 117, 3) := by decide +kernel
theorem dX12_keep_60 : decode cX12_keep 60 = .ok (.iconst 1, 1) := by decide +kernel
theorem dX12_keep_61 : decode cX12_keep 61 = .ok (.iadd, 1) := by decide +kernel
theorem dX12_keep_62 : decode cX12_keep 62 = .ok (.putfield 117, 3) := by decide +kernel
theorem dX12_keep_65 : decode cX12_keep 65 = .ok (.aload_n 0, 1) := by decide +kernel
theorem dX12_keep_66 : decode cX12_keep 66 = .ok (.aload_n 0, 1) := by decide +kernel
theorem dX12_keep_67 : decode cX12_keep 67 = .ok (.getfield 19, 3) := by decide +kernel
theorem dX12_keep_70 : decode cX12_keep 70 = .ok (.bipush 60, 2) := by decide +kernel
theorem dX12_keep_72 : decode cX12_keep 72 = .ok (.invokevirtual 123, 3) := by decide +kernel
theorem dX12_keep_75 : decode cX12_keep 75 = .ok (.aload_n 0, 1) := by decide +kernel
theorem dX12_keep_76 : decode cX12_keep 76 = .ok (.aload_n 0, 1) := by decide +kernel
theorem dX12_keep_77 : decode cX12_keep 77 = .ok (.getfield 22, 3) := by decide +kernel
theorem dX12_keep_80 : decode cX12_keep 80 = .ok (.bipush 60, 2) := by decide +kernel
theorem dX12_keep_82 : decode cX12_keep 82 = .ok (.invokevirtual 123, 3) := by decide +kernel
theorem dX12_keep_85 : decode cX12_keep 85 = .ok (.aload_n 0, 1) := by decide +kernel
theorem dX12_keep_86 : decode cX12_keep 86 = .ok (.aload_n 0, 1) := by decide +kernel
theorem dX12_keep_87 : decode cX12_keep 87 = .ok (.getfield 25, 3) := by decide +kernel
theorem dX12_keep_90 : decode cX12_keep 90 = .ok (.bipush 60, 2) := by decide +kernel
theorem dX12_keep_92 : decode cX12_keep 92 = .ok (.invokevirtual 123, 3) := by decide +kernel
theorem dX12_keep_95 : decode cX12_keep 95 = .ok (.aload_n 0, 1) := by decide +kernel
theorem dX12_keep_96 : decode cX12_keep 96 = .ok (.aload_n 0, 1) := by decide +kernel
theorem dX12_keep_97 : decode cX12_keep 97 = .ok (.getfield 28, 3) := by decide +kernel
theorem dX12_keep_100 : decode cX12_keep 100 = .ok (.bipush 60, 2) := by decide +kernel
theorem dX12_keep_102 : decode cX12_keep 102 = .ok (.invokevirtual 123, 3) := by decide +kernel
theorem dX12_keep_105 : decode cX12_keep 105 = .ok (.aload_n 0, 1) := by decide +kernel
theorem dX12_keep_106 : decode cX12_keep 106 = .ok (.aload_n 0, 1) := by decide +kernel
theorem dX12_keep_107 : decode cX12_keep 107 = .ok (.getfield 120, 3) := by decide +kernel
theorem dX12_keep_110 : decode cX12_keep 110 = .ok (.iconst 1, 1) := by decide +kernel
theorem dX12_keep_111 : decode cX12_keep 111 = .ok (.iadd, 1) := by decide +kernel
theorem dX12_keep_112 : decode cX12_keep 112 = .ok (.bipush 8, 2) := by decide +kernel
theorem dX12_keep_114 : decode cX12_keep 114 = .ok (.irem, 1) := by decide +kernel
theorem dX12_keep_115 : decode cX12_keep 115 = .ok (.putfield 120, 3) := by decide +kernel
theorem dX12_keep_118 : decode cX12_keep 118 = .ok (.aload_n 0, 1) := by decide +kernel
theorem dX12_keep_119 : decode cX12_keep 119 = .ok (.aload_n 0, 1) := by decide +kernel
theorem dX12_keep_120 : decode cX12_keep 120 = .ok (.getfield 130, 3) := by decide +kernel
theorem dX12_keep_123 : decode cX12_keep 123 = .ok (.bipush 8, 2) := by decide +kernel
theorem dX12_keep_125 : decode cX12_keep 125 = .ok (.if_icmp .ge 12, 3) := by decide +kernel
theorem dX12_keep_128 : decode cX12_keep 128 = .ok (.aload_n 0, 1) := by decide +kernel
theorem dX12_keep_129 : decode cX12_keep 129 = .ok (.getfield 130, 3) := by decide +kernel
theorem dX12_keep_132 : decode cX12_keep 132 = .ok (.iconst 1, 1) := by decide +kernel
theorem dX12_keep_133 : decode cX12_keep 133 = .ok (.iadd, 1) := by decide +kernel
theorem dX12_keep_134 : decode cX12_keep 134 = .ok (.goto 5, 3) := by decide +kernel
theorem dX12_keep_137 : decode cX12_keep 137 = .ok (.bipush 8, 2) := by decide +kernel
theorem dX12_keep_139 : decode cX12_keep 139 = .ok (.putfield 130, 3) := by decide +kernel
theorem dX12_keep_142 : decode cX12_keep 142 = .ok (.return_, 1) := by decide +kernel
theorem dX12_undo_0 : decode cX12_undo 0 = .ok (.aload_n 0, 1) := by decide +kernel
theorem dX12_undo_1 : decode cX12_undo 1 = .ok (.iconst 0, 1) := by decide +kernel
theorem dX12_undo_2 : decode cX12_undo 2 = .ok (.putfield 113, 3) := by decide +kernel
theorem dX12_undo_5 : decode cX12_undo 5 = .ok (.aload_n 0, 1) := by decide +kernel
theorem dX12_undo_6 : decode cX12_undo 6 = .ok (.getfield 130, 3) := by decide +kernel
theorem dX12_undo_9 : decode cX12_undo 9 = .ok (.ifCond .ne 6, 3) := by decide +kernel
theorem dX12_undo_12 : decode cX12_undo 12 = .ok (.bipush (-4), 2) := by decide +kernel
theorem dX12_undo_14 : decode cX12_undo 14 = .ok (.ireturn, 1) := by decide +kernel
theorem dX12_undo_15 : decode cX12_undo 15 = .ok (.aload_n 0, 1) := by decide +kernel
theorem dX12_undo_16 : decode cX12_undo 16 = .ok (.aload_n 0, 1) := by decide +kernel
theorem dX12_undo_17 : decode cX12_undo 17 = .ok (.getfield 120, 3) := by decide +kernel
theorem dX12_undo_20 : decode cX12_undo 20 = .ok (.bipush 8, 2) := by decide +kernel
theorem dX12_undo_22 : decode cX12_undo 22 = .ok (.iadd, 1) := by decide +kernel
theorem dX12_undo_23 : decode cX12_undo 23 = .ok (.iconst 1, 1) := by decide +kernel
theorem dX12_undo_24 : decode cX12_undo 24 = .ok (.isub, 1) := by decide +kernel
theorem dX12_undo_25 : decode cX12_undo 25 = .ok (.bipush 8, 2) := by decide +kernel
theorem dX12_undo_27 : decode cX12_undo 27 = .ok (.irem, 1) := by decide +kernel
theorem dX12_undo_28 : decode cX12_undo 28 = .ok (.putfield 120, 3) := by decide +kernel
theorem dX12_undo_31 : decode cX12_undo 31 = .ok (.aload_n 0, 1) := by decide +kernel
theorem dX12_undo_32 : decode cX12_undo 32 = .ok (.dup, 1) := by decide +kernel
theorem dX12_undo_33 : decode cX12_undo 33 = .ok (.getfield 130, 3) := by decide +kernel
theorem dX12_undo_36 : decode cX12_undo 36 = .ok (.iconst 1, 1) := by decide +kernel
theorem dX12_undo_37 : decode cX12_undo 37 = .ok (.isub, 1) := by decide +kernel
theorem dX12_undo_38 : decode cX12_undo 38 = .ok (.putfield 130, 3) := by decide +kernel
theorem dX12_undo_41 : decode cX12_undo 41 = .ok (.aload_n 0, 1) := by decide +kernel
theorem dX12_undo_42 : decode cX12_undo 42 = .ok (.sipush 1860, 3) := by decide +kernel
theorem dX12_undo_45 : decode cX12_undo 45 = .ok (.aload_n 0, 1) := by decide +kernel
theorem dX12_undo_46 : decode cX12_undo 46 = .ok (.getfield 120, 3) := by decide +kernel
theorem dX12_undo_49 : decode cX12_undo 49 = .ok (.imul, 1) := by decide +kernel
theorem dX12_undo_50 : decode cX12_undo 50 = .ok (.putfield 117, 3) := by decide +kernel
theorem dX12_undo_53 : decode cX12_undo 53 = .ok (.aload_n 0, 1) := by decide +kernel
theorem dX12_undo_54 : decode cX12_undo 54 = .ok (.aload_n 0, 1) := by decide +kernel
theorem dX12_undo_55 : decode cX12_undo 55 = .ok (.getfield 7, 3) := by decide +kernel
theorem dX12_undo_58 : decode cX12_undo 58 = .ok (.iconst 4, 1) := by decide +kernel
theorem dX12_undo_59 : decode cX12_undo 59 = .ok (.invokevirtual 133, 3) := by decide +kernel
theorem dX12_undo_62 : decode cX12_undo 62 = .ok (.aload_n 0, 1) := by decide +kernel
theorem dX12_undo_63 : decode cX12_undo 63 = .ok (.aload_n 0, 1) := by decide +kernel
theorem dX12_undo_64 : decode cX12_undo 64 = .ok (.getfield 13, 3) := by decide +kernel
theorem dX12_undo_67 : decode cX12_undo 67 = .ok (.bipush 64, 2) := by decide +kernel
theorem dX12_undo_69 : decode cX12_undo 69 = .ok (.invokevirtual 133, 3) := by decide +kernel
theorem dX12_undo_72 : decode cX12_undo 72 = .ok (.aload_n 0, 1) := by decide +kernel
theorem dX12_undo_73 : decode cX12_undo 73 = .ok (.aload_n 0, 1) := by decide +kernel
theorem dX12_undo_74 : decode cX12_undo 74 = .ok (.getfield 16, 3) := by decide +kernel
theorem dX12_undo_77 : decode cX12_undo 77 = .ok (.sipush 1536, 3) := by decide +kernel
theorem dX12_undo_80 : decode cX12_undo 80 = .ok (.invokevirtual 133, 3) := by decide +kernel
theorem dX12_undo_83 : decode cX12_undo 83 = .ok (.aload_n 0, 1) := by decide +kernel
theorem dX12_undo_84 : decode cX12_undo 84 = .ok (.aload_n 0, 1) := by decide +kernel
theorem dX12_undo_85 : decode cX12_undo 85 = .ok (.getfield 37, 3) := by decide +kernel
theorem dX12_undo_88 : decode cX12_undo 88 = .ok (.aload_n 0, 1) := by decide +kernel
theorem dX12_undo_89 : decode cX12_undo 89 = .ok (.getfield 117, 3) := by decide +kernel
theorem dX12_undo_92 : decode cX12_undo 92 = .ok (.iaload, 1) := by decide +kernel
theorem dX12_undo_93 : decode cX12_undo 93 = .ok (.putfield 127, 3) := by decide +kernel
theorem dX12_undo_96 : decode cX12_undo 96 = .ok (.aload_n 0, 1) := by decide +kernel
theorem dX12_undo_97 : decode cX12_undo 97 = .ok (.dup, 1) := by decide +kernel
theorem dX12_undo_98 : decode cX12_undo 98 = .ok (.getfield 117, 3) := by decide +kernel
theorem dX12_undo_101 : decode cX12_undo 101 = .ok (.iconst 1, 1) := by decide +kernel
theorem dX12_undo_102 : decode cX12_undo 102 = .ok (.iadd, 1) := by decide +kernel
theorem dX12_undo_103 : decode cX12_undo 103 = .ok (.putfield 117, 3) := by decide +kernel
theorem dX12_undo_106 : decode cX12_undo 106 = .ok (.aload_n 0, 1) := by decide +kernel
theorem dX12_undo_107 : decode cX12_undo 107 = .ok (.aload_n 0, 1) := by decide +kernel
theorem dX12_undo_108 : decode cX12_undo 108 = .ok (.getfield 19, 3) := by decide +kernel
theorem dX12_undo_111 : decode cX12_undo 111 = .ok (.bipush 60, 2) := by decide +kernel
theorem dX12_undo_113 : decode cX12_undo 113 = .ok (.invokevirtual 133, 3) := by decide +kernel
theorem dX12_undo_116 : decode cX12_undo 116 = .ok (.aload_n 0, 1) := by decide +kernel
theorem dX12_undo_117 : decode cX12_undo 117 = .ok (.aload_n 0, 1) := by decide +kernel
theorem dX12_undo_118 : decode cX12_undo 118 = .ok (.getfield 22, 3) := by decide +kernel
theorem dX12_undo_121 : decode cX12_undo 121 = .ok (.bipush 60, 2) := by decide +kernel
theorem dX12_undo_123 : decode cX12_undo 123 = .ok (.invokevirtual 133, 3) := by decide +kernel
theorem dX12_undo_126 : decode cX12_undo 126 = .ok (.aload_n 0, 1) := by decide +kernel
theorem dX12_undo_127 : decode cX12_undo 127 = .ok (.aload_n 0, 1) := by decide +kernel
theorem dX12_undo_128 : decode cX12_undo 128 = .ok (.getfield 25, 3) := by decide +kernel
theorem dX12_undo_131 : decode cX12_undo 131 = .ok (.bipush 60, 2) := by decide +kernel
theorem dX12_undo_133 : decode cX12_undo 133 = .ok (.invokevirtual 133, 3) := by decide +kernel
theorem dX12_undo_136 : decode cX12_undo 136 = .ok (.aload_n 0, 1) := by decide +kernel
theorem dX12_undo_137 : decode cX12_undo 137 = .ok (.aload_n 0, 1) := by decide +kernel
theorem dX12_undo_138 : decode cX12_undo 138 = .ok (.getfield 28, 3) := by decide +kernel
theorem dX12_undo_141 : decode cX12_undo 141 = .ok (.bipush 60, 2) := by decide +kernel
theorem dX12_undo_143 : decode cX12_undo 143 = .ok (.invokevirtual 133, 3) := by decide +kernel
theorem dX12_undo_146 : decode cX12_undo 146 = .ok (.aload_n 0, 1) := by decide +kernel
theorem dX12_undo_147 : decode cX12_undo 147 = .ok (.getfield 130, 3) := by decide +kernel
theorem dX12_undo_150 : decode cX12_undo 150 = .ok (.ireturn, 1) := by decide +kernel
theorem dX12_change_0 : decode cX12_change 0 = .ok (.aload_n 0, 1) := by decide +kernel
theorem dX12_change_1 : decode cX12_change 1 = .ok (.invokevirtual 136, 3) := by decide +kernel
theorem dX12_change_4 : decode cX12_change 4 = .ok (.iconst 0, 1) := by decide +kernel
theorem dX12_change_5 : decode cX12_change 5 = .ok (.istore_n 1, 1) := by decide +kernel
theorem dX12_change_6 : decode cX12_change 6 = .ok (.iload_n 1, 1) := by decide +kernel
theorem dX12_change_7 : decode cX12_change 7 = .ok (.sipush 1536, 3) := by decide +kernel
theorem dX12_change_10 : decode cX12_change 10 = .ok (.if_icmp .ge 16, 3) := by decide +kernel
theorem dX12_change_13 : decode cX12_change 13 = .ok (.aload_n 0, 1) := by decide +kernel
theorem dX12_change_14 : decode cX12_change 14 = .ok (.getfield 16, 3) := by decide +kernel
theorem dX12_change_17 : decode cX12_change 17 = .ok (.iload_n 1, 1) := by decide +kernel
theorem dX12_change_18 : decode cX12_change 18 = .ok (.iconst 0, 1) := by decide +kernel
theorem dX12_change_19 : decode cX12_change 19 = .ok (.iastore, 1) := by decide +kernel
theorem dX12_change_20 : decode cX12_change 20 = .ok (.iinc 1 1, 3) := by decide +kernel
theorem dX12_change_23 : decode cX12_change 23 = .ok (.goto (-17), 3) := by decide +kernel
theorem dX12_change_26 : decode cX12_change 26 = .ok (.return_, 1) := by decide +kernel
theorem dX12_cubesIn_0 : decode cX12_cubesIn 0 = .ok (.iconst 0, 1) := by decide +kernel
theorem dX12_cubesIn_1 : decode cX12_cubesIn 1 = .ok (.istore_n 2, 1) := by decide +kernel
theorem dX12_cubesIn_2 : decode cX12_cubesIn 2 = .ok (.iconst 0, 1) := by decide +kernel
theorem dX12_cubesIn_3 : decode cX12_cubesIn 3 = .ok (.istore_n 3, 1) := by decide +kernel
theorem dX12_cubesIn_4 : decode cX12_cubesIn 4 = .ok (.iload_n 3, 1) := by decide +kernel
theorem dX12_cubesIn_5 : decode cX12_cubesIn 5 = .ok (.bipush 16, 2) := by decide +kernel
theorem dX12_cubesIn_7 : decode cX12_cubesIn 7 = .ok (.if_icmp .ge 23, 3) := by decide +kernel
theorem dX12_cubesIn_10 : decode cX12_cubesIn 10 = .ok (.iload_n 2, 1) := by decide +kernel
theorem dX12_cubesIn_11 : decode cX12_cubesIn 11 = .ok (.aload_n 0, 1) := by decide +kernel
theorem dX12_cubesIn_12 : decode cX12_cubesIn 12 = .ok (.getfield 13, 3) := by decide +kernel
theorem dX12_cubesIn_15 : decode cX12_cubesIn 15 = .ok (.bipush 16, 2) := by decide +kernel
theorem dX12_cubesIn_17 : decode cX12_cubesIn 17 = .ok (.iload_n 1, 1) := by decide +kernel
theorem dX12_cubesIn_18 : decode cX12_cubesIn 18 = .ok (.imul, 1) := by decide +kernel
theorem dX12_cubesIn_19 : decode cX12_cubesIn 19 = .ok (.iload_n 3, 1) := by decide +kernel
theorem dX12_cubesIn_20 : decode cX12_cubesIn 20 = .ok (.iadd, 1) := by decide +kernel
theorem dX12_cubesIn_21 : decode cX12_cubesIn 21 = .ok (.iaload, 1) := by decide +kernel
theorem dX12_cubesIn_22 : decode cX12_cubesIn 22 = .ok (.iadd, 1) := by decide +kernel
theorem dX12_cubesIn_23 : decode cX12_cubesIn 23 = .ok (.istore_n 2, 1) := by decide +kernel
theorem dX12_cubesIn_24 : decode cX12_cubesIn 24 = .ok (.iinc 3 1, 3) := by decide +kernel
theorem dX12_cubesIn_27 : decode cX12_cubesIn 27 = .ok (.goto (-23), 3) := by decide +kernel
theorem dX12_cubesIn_30 : decode cX12_cubesIn 30 = .ok (.iload_n 2, 1) := by decide +kernel
theorem dX12_cubesIn_31 : decode cX12_cubesIn 31 = .ok (.ireturn, 1) := by decide +kernel
theorem dX12_layer_0 : decode cX12_layer 0 = .ok (.aload_n 0, 1) := by decide +kernel
theorem dX12_layer_1 : decode cX12_layer 1 = .ok (.iconst 0, 1) := by decide +kernel
theorem dX12_layer_2 : decode cX12_layer 2 = .ok (.putfield 113, 3) := by decide +kernel
theorem dX12_layer_5 : decode cX12_layer 5 = .ok (.iload_n 1, 1) := by decide +kernel
theorem dX12_layer_6 : decode cX12_layer 6 = .ok (.iconst 0, 1) := by decide +kernel
theorem dX12_layer_7 : decode cX12_layer 7 = .ok (.iconst 3, 1) := by decide +kernel
theorem dX12_layer_8 : decode cX12_layer 8 = .ok (.invokestatic 139, 3) := by decide +kernel
theorem dX12_layer_11 : decode cX12_layer 11 = .ok (.ifCond .ne 6, 3) := by decide +kernel
theorem dX12_layer_14 : decode cX12_layer 14 = .ok (.bipush (-3), 2) := by decide +kernel
theorem dX12_layer_16 : decode cX12_layer 16 = .ok (.ireturn, 1) := by decide +kernel
theorem dX12_layer_17 : decode cX12_layer 17 = .ok (.aload_n 0, 1) := by decide +kernel
theorem dX12_layer_18 : decode cX12_layer 18 = .ok (.invokevirtual 143, 3) := by decide +kernel
theorem dX12_layer_21 : decode cX12_layer 21 = .ok (.aload_n 0, 1) := by decide +kernel
theorem dX12_layer_22 : decode cX12_layer 22 = .ok (.getfield 7, 3) := by decide +kernel
theorem dX12_layer_25 : decode cX12_layer 25 = .ok (.iload_n 1, 1) := by decide +kernel
theorem dX12_layer_26 : decode cX12_layer 26 = .ok (.iconst 1, 1) := by decide +kernel
theorem dX12_layer_27 : decode cX12_layer 27 = .ok (.iastore, 1) := by decide +kernel
theorem dX12_layer_28 : decode cX12_layer 28 = .ok (.iconst 0, 1) := by decide +kernel
theorem dX12_layer_29 : decode cX12_layer 29 = .ok (.istore_n 3, 1) := by decide +kernel
theorem dX12_layer_30 : decode cX12_layer 30 = .ok (.iload_n 3, 1) := by decide +kernel
theorem dX12_layer_31 : decode cX12_layer 31 = .ok (.bipush 16, 2) := by decide +kernel
theorem dX12_layer_33 : decode cX12_layer 33 = .ok (.if_icmp .ge 25, 3) := by decide +kernel
theorem dX12_layer_36 : decode cX12_layer 36 = .ok (.aload_n 0, 1) := by decide +kernel
theorem dX12_layer_37 : decode cX12_layer 37 = .ok (.getfield 13, 3) := by decide +kernel
theorem dX12_layer_40 : decode cX12_layer 40 = .ok (.bipush 16, 2) := by decide +kernel
theorem dX12_layer_42 : decode cX12_layer 42 = .ok (.iload_n 1, 1) := by decide +kernel
theorem dX12_layer_43 : decode cX12_layer 43 = .ok (.imul, 1) := by decide +kernel
theorem dX12_layer_44 : decode cX12_layer 44 = .ok (.iload_n 3, 1) := by decide +kernel
theorem dX12_layer_45 : decode cX12_layer 45 = .ok (.iadd, 1) := by decide +kernel
theorem dX12_layer_46 : decode cX12_layer 46 = .ok (.iload_n 2, 1) := by decide +kernel
theorem dX12_layer_47 : decode cX12_layer 47 = .ok (.iload_n 3, 1) := by decide +kernel
theorem dX12_layer_48 : decode cX12_layer 48 = .ok (.ishr, 1) := by decide +kernel
theorem dX12_layer_49 : decode cX12_layer 49 = .ok (.iconst 1, 1) := by decide +kernel
theorem dX12_layer_50 : decode cX12_layer 50 = .ok (.iand, 1) := by decide +kernel
theorem dX12_layer_51 : decode cX12_layer 51 = .ok (.iastore, 1) := by decide +kernel
theorem dX12_layer_52 : decode cX12_layer 52 = .ok (.iinc 3 1, 3) := by decide +kernel
theorem dX12_layer_55 : decode cX12_layer 55 = .ok (.goto (-25), 3) := by decide +kernel
theorem dX12_layer_58 : decode cX12_layer 58 = .ok (.aload_n 0, 1) := by decide +kernel
theorem dX12_layer_59 : decode cX12_layer 59 = .ok (.iload_n 1, 1) := by decide +kernel
theorem dX12_layer_60 : decode cX12_layer 60 = .ok (.invokevirtual 146, 3) := by decide +kernel
theorem dX12_layer_63 : decode cX12_layer 63 = .ok (.ireturn, 1) := by decide +kernel
theorem dX12_lose_0 : decode cX12_lose 0 = .ok (.aload_n 0, 1) := by decide +kernel
theorem dX12_lose_1 : decode cX12_lose 1 = .ok (.iconst 0, 1) := by decide +kernel
theorem dX12_lose_2 : decode cX12_lose 2 = .ok (.putfield 113, 3) := by decide +kernel
theorem dX12_lose_5 : decode cX12_lose 5 = .ok (.iload_n 1, 1) := by decide +kernel
theorem dX12_lose_6 : decode cX12_lose 6 = .ok (.iconst 0, 1) := by decide +kernel
theorem dX12_lose_7 : decode cX12_lose 7 = .ok (.iconst 3, 1) := by decide +kernel
theorem dX12_lose_8 : decode cX12_lose 8 = .ok (.invokestatic 139, 3) := by decide +kernel
theorem dX12_lose_11 : decode cX12_lose 11 = .ok (.ifCond .ne 6, 3) := by decide +kernel
theorem dX12_lose_14 : decode cX12_lose 14 = .ok (.bipush (-3), 2) := by decide +kernel
theorem dX12_lose_16 : decode cX12_lose 16 = .ok (.ireturn, 1) := by decide +kernel
theorem dX12_lose_17 : decode cX12_lose 17 = .ok (.aload_n 0, 1) := by decide +kernel
theorem dX12_lose_18 : decode cX12_lose 18 = .ok (.getfield 7, 3) := by decide +kernel
theorem dX12_lose_21 : decode cX12_lose 21 = .ok (.iload_n 1, 1) := by decide +kernel
theorem dX12_lose_22 : decode cX12_lose 22 = .ok (.iaload, 1) := by decide +kernel
theorem dX12_lose_23 : decode cX12_lose 23 = .ok (.ifCond .ne 6, 3) := by decide +kernel
theorem dX12_lose_26 : decode cX12_lose 26 = .ok (.bipush (-11), 2) := by decide +kernel
theorem dX12_lose_28 : decode cX12_lose 28 = .ok (.ireturn, 1) := by decide +kernel
theorem dX12_lose_29 : decode cX12_lose 29 = .ok (.aload_n 0, 1) := by decide +kernel
theorem dX12_lose_30 : decode cX12_lose 30 = .ok (.invokevirtual 143, 3) := by decide +kernel
theorem dX12_lose_33 : decode cX12_lose 33 = .ok (.aload_n 0, 1) := by decide +kernel
theorem dX12_lose_34 : decode cX12_lose 34 = .ok (.iload_n 1, 1) := by decide +kernel
theorem dX12_lose_35 : decode cX12_lose 35 = .ok (.invokevirtual 146, 3) := by decide +kernel
theorem dX12_lose_38 : decode cX12_lose 38 = .ok (.istore_n 2, 1) := by decide +kernel
theorem dX12_lose_39 : decode cX12_lose 39 = .ok (.aload_n 0, 1) := by decide +kernel
theorem dX12_lose_40 : decode cX12_lose 40 = .ok (.getfield 7, 3) := by decide +kernel
theorem dX12_lose_43 : decode cX12_lose 43 = .ok (.iload_n 1, 1) := by decide +kernel
theorem dX12_lose_44 : decode cX12_lose 44 = .ok (.iconst 0, 1) := by decide +kernel
theorem dX12_lose_45 : decode cX12_lose 45 = .ok (.iastore, 1) := by decide +kernel
theorem dX12_lose_46 : decode cX12_lose 46 = .ok (.iconst 0, 1) := by decide +kernel
theorem dX12_lose_47 : decode cX12_lose 47 = .ok (.istore_n 3, 1) := by decide +kernel
theorem dX12_lose_48 : decode cX12_lose 48 = .ok (.iload_n 3, 1) := by decide +kernel
theorem dX12_lose_49 : decode cX12_lose 49 = .ok (.bipush 16, 2) := by decide +kernel
theorem dX12_lose_51 : decode cX12_lose 51 = .ok (.if_icmp .ge 21, 3) := by decide +kernel
theorem dX12_lose_54 : decode cX12_lose 54 = .ok (.aload_n 0, 1) := by decide +kernel
theorem dX12_lose_55 : decode cX12_lose 55 = .ok (.getfield 13, 3) := by decide +kernel
theorem dX12_lose_58 : decode cX12_lose 58 = .ok (.bipush 16, 2) := by decide +kernel
theorem dX12_lose_60 : decode cX12_lose 60 = .ok (.iload_n 1, 1) := by decide +kernel
theorem dX12_lose_61 : decode cX12_lose 61 = .ok (.imul, 1) := by decide +kernel
theorem dX12_lose_62 : decode cX12_lose 62 = .ok (.iload_n 3, 1) := by decide +kernel
theorem dX12_lose_63 : decode cX12_lose 63 = .ok (.iadd, 1) := by decide +kernel
theorem dX12_lose_64 : decode cX12_lose 64 = .ok (.iconst 0, 1) := by decide +kernel
theorem dX12_lose_65 : decode cX12_lose 65 = .ok (.iastore, 1) := by decide +kernel
theorem dX12_lose_66 : decode cX12_lose 66 = .ok (.iinc 3 1, 3) := by decide +kernel
theorem dX12_lose_69 : decode cX12_lose 69 = .ok (.goto (-21), 3) := by decide +kernel
theorem dX12_lose_72 : decode cX12_lose 72 = .ok (.iload_n 2, 1) := by decide +kernel
theorem dX12_lose_73 : decode cX12_lose 73 = .ok (.ireturn, 1) := by decide +kernel
theorem dX12_cube_0 : decode cX12_cube 0 = .ok (.aload_n 0, 1) := by decide +kernel
theorem dX12_cube_1 : decode cX12_cube 1 = .ok (.iconst 0, 1) := by decide +kernel
theorem dX12_cube_2 : decode cX12_cube 2 = .ok (.putfield 113, 3) := by decide +kernel
theorem dX12_cube_5 : decode cX12_cube 5 = .ok (.iload_n 1, 1) := by decide +kernel
theorem dX12_cube_6 : decode cX12_cube 6 = .ok (.iconst 0, 1) := by decide +kernel
theorem dX12_cube_7 : decode cX12_cube 7 = .ok (.iconst 3, 1) := by decide +kernel
theorem dX12_cube_8 : decode cX12_cube 8 = .ok (.invokestatic 139, 3) := by decide +kernel
theorem dX12_cube_11 : decode cX12_cube 11 = .ok (.ifCond .eq 12, 3) := by decide +kernel
theorem dX12_cube_14 : decode cX12_cube 14 = .ok (.iload_n 3, 1) := by decide +kernel
theorem dX12_cube_15 : decode cX12_cube 15 = .ok (.iconst 0, 1) := by decide +kernel
theorem dX12_cube_16 : decode cX12_cube 16 = .ok (.iconst 1, 1) := by decide +kernel
theorem dX12_cube_17 : decode cX12_cube 17 = .ok (.invokestatic 139, 3) := by decide +kernel
theorem dX12_cube_20 : decode cX12_cube 20 = .ok (.ifCond .ne 6, 3) := by decide +kernel
theorem dX12_cube_23 : decode cX12_cube 23 = .ok (.bipush (-3), 2) := by decide +kernel
theorem dX12_cube_25 : decode cX12_cube 25 = .ok (.ireturn, 1) := by decide +kernel
theorem dX12_cube_26 : decode cX12_cube 26 = .ok (.aload_n 0, 1) := by decide +kernel
theorem dX12_cube_27 : decode cX12_cube 27 = .ok (.getfield 7, 3) := by decide +kernel
theorem dX12_cube_30 : decode cX12_cube 30 = .ok (.iload_n 1, 1) := by decide +kernel
theorem dX12_cube_31 : decode cX12_cube 31 = .ok (.iaload, 1) := by decide +kernel
theorem dX12_cube_32 : decode cX12_cube 32 = .ok (.ifCond .ne 6, 3) := by decide +kernel
theorem dX12_cube_35 : decode cX12_cube 35 = .ok (.bipush (-11), 2) := by decide +kernel
theorem dX12_cube_37 : decode cX12_cube 37 = .ok (.ireturn, 1) := by decide +kernel
theorem dX12_cube_38 : decode cX12_cube 38 = .ok (.iload_n 2, 1) := by decide +kernel
theorem dX12_cube_39 : decode cX12_cube 39 = .ok (.iconst 0, 1) := by decide +kernel
theorem dX12_cube_40 : decode cX12_cube 40 = .ok (.bipush 15, 2) := by decide +kernel
theorem dX12_cube_42 : decode cX12_cube 42 = .ok (.invokestatic 139, 3) := by decide +kernel
theorem dX12_cube_45 : decode cX12_cube 45 = .ok (.ifCond .ne 6, 3) := by decide +kernel
theorem dX12_cube_48 : decode cX12_cube 48 = .ok (.bipush (-13), 2) := by decide +kernel
theorem dX12_cube_50 : decode cX12_cube 50 = .ok (.ireturn, 1) := by decide +kernel
theorem dX12_cube_51 : decode cX12_cube 51 = .ok (.aload_n 0, 1) := by decide +kernel
theorem dX12_cube_52 : decode cX12_cube 52 = .ok (.invokevirtual 143, 3) := by decide +kernel
theorem dX12_cube_55 : decode cX12_cube 55 = .ok (.aload_n 0, 1) := by decide +kernel
theorem dX12_cube_56 : decode cX12_cube 56 = .ok (.getfield 13, 3) := by decide +kernel
theorem dX12_cube_59 : decode cX12_cube 59 = .ok (.bipush 16, 2) := by decide +kernel
theorem dX12_cube_61 : decode cX12_cube 61 = .ok (.iload_n 1, 1) := by decide +kernel
theorem dX12_cube_62 : decode cX12_cube 62 = .ok (.imul, 1) := by decide +kernel
theorem dX12_cube_63 : decode cX12_cube 63 = .ok (.iload_n 2, 1) := by decide +kernel
theorem dX12_cube_64 : decode cX12_cube 64 = .ok (.iadd, 1) := by decide +kernel
theorem dX12_cube_65 : decode cX12_cube 65 = .ok (.iaload, 1) := by decide +kernel
theorem dX12_cube_66 : decode cX12_cube 66 = .ok (.istore 4, 2) := by decide +kernel
theorem dX12_cube_68 : decode cX12_cube 68 = .ok (.aload_n 0, 1) := by decide +kernel
theorem dX12_cube_69 : decode cX12_cube 69 = .ok (.getfield 13, 3) := by decide +kernel
theorem dX12_cube_72 : decode cX12_cube 72 = .ok (.bipush 16, 2) := by decide +kernel
theorem dX12_cube_74 : decode cX12_cube 74 = .ok (.iload_n 1, 1) := by decide +kernel
theorem dX12_cube_75 : decode cX12_cube 75 = .ok (.imul, 1) := by decide +kernel
theorem dX12_cube_76 : decode cX12_cube 76 = .ok (.iload_n 2, 1) := by decide +kernel
theorem dX12_cube_77 : decode cX12_cube 77 = .ok (.iadd, 1) := by decide +kernel
theorem dX12_cube_78 : decode cX12_cube 78 = .ok (.iload_n 3, 1) := by decide +kernel
theorem dX12_cube_79 : decode cX12_cube 79 = .ok (.iastore, 1) := by decide +kernel
theorem dX12_cube_80 : decode cX12_cube 80 = .ok (.iload 4, 2) := by decide +kernel
theorem dX12_cube_82 : decode cX12_cube 82 = .ok (.ireturn, 1) := by decide +kernel
theorem dX12_copy_0 : decode cX12_copy 0 = .ok (.aload_n 0, 1) := by decide +kernel
theorem dX12_copy_1 : decode cX12_copy 1 = .ok (.iconst 0, 1) := by decide +kernel
theorem dX12_copy_2 : decode cX12_copy 2 = .ok (.putfield 113, 3) := by decide +kernel
theorem dX12_copy_5 : decode cX12_copy 5 = .ok (.iload_n 1, 1) := by decide +kernel
theorem dX12_copy_6 : decode cX12_copy 6 = .ok (.iconst 0, 1) := by decide +kernel
theorem dX12_copy_7 : decode cX12_copy 7 = .ok (.iconst 3, 1) := by decide +kernel
theorem dX12_copy_8 : decode cX12_copy 8 = .ok (.invokestatic 139, 3) := by decide +kernel
theorem dX12_copy_11 : decode cX12_copy 11 = .ok (.ifCond .eq 12, 3) := by decide +kernel
theorem dX12_copy_14 : decode cX12_copy 14 = .ok (.iload_n 3, 1) := by decide +kernel
theorem dX12_copy_15 : decode cX12_copy 15 = .ok (.iconst 0, 1) := by decide +kernel
theorem dX12_copy_16 : decode cX12_copy 16 = .ok (.iconst 3, 1) := by decide +kernel
theorem dX12_copy_17 : decode cX12_copy 17 = .ok (.invokestatic 139, 3) := by decide +kernel
theorem dX12_copy_20 : decode cX12_copy 20 = .ok (.ifCond .ne 6, 3) := by decide +kernel
theorem dX12_copy_23 : decode cX12_copy 23 = .ok (.bipush (-3), 2) := by decide +kernel
theorem dX12_copy_25 : decode cX12_copy 25 = .ok (.ireturn, 1) := by decide +kernel
theorem dX12_copy_26 : decode cX12_copy 26 = .ok (.aload_n 0, 1) := by decide +kernel
theorem dX12_copy_27 : decode cX12_copy 27 = .ok (.getfield 7, 3) := by decide +kernel
theorem dX12_copy_30 : decode cX12_copy 30 = .ok (.iload_n 1, 1) := by decide +kernel
theorem dX12_copy_31 : decode cX12_copy 31 = .ok (.iaload, 1) := by decide +kernel
theorem dX12_copy_32 : decode cX12_copy 32 = .ok (.ifCond .eq 12, 3) := by decide +kernel
theorem dX12_copy_35 : decode cX12_copy 35 = .ok (.aload_n 0, 1) := by decide +kernel
theorem dX12_copy_36 : decode cX12_copy 36 = .ok (.getfield 7, 3) := by decide +kernel
theorem dX12_copy_39 : decode cX12_copy 39 = .ok (.iload_n 3, 1) := by decide +kernel
theorem dX12_copy_40 : decode cX12_copy 40 = .ok (.iaload, 1) := by decide +kernel
theorem dX12_copy_41 : decode cX12_copy 41 = .ok (.ifCond .ne 6, 3) := by decide +kernel
theorem dX12_copy_44 : decode cX12_copy 44 = .ok (.bipush (-11), 2) := by decide +kernel
theorem dX12_copy_46 : decode cX12_copy 46 = .ok (.ireturn, 1) := by decide +kernel
theorem dX12_copy_47 : decode cX12_copy 47 = .ok (.iload 5, 2) := by decide +kernel
theorem dX12_copy_49 : decode cX12_copy 49 = .ok (.iconst 0, 1) := by decide +kernel
theorem dX12_copy_50 : decode cX12_copy 50 = .ok (.bipush 16, 2) := by decide +kernel
theorem dX12_copy_52 : decode cX12_copy 52 = .ok (.invokestatic 139, 3) := by decide +kernel
theorem dX12_copy_55 : decode cX12_copy 55 = .ok (.ifCond .eq 30, 3) := by decide +kernel
theorem dX12_copy_58 : decode cX12_copy 58 = .ok (.iload_n 2, 1) := by decide +kernel
theorem dX12_copy_59 : decode cX12_copy 59 = .ok (.iconst 0, 1) := by decide +kernel
theorem dX12_copy_60 : decode cX12_copy 60 = .ok (.bipush 16, 2) := by decide +kernel
theorem dX12_copy_62 : decode cX12_copy 62 = .ok (.iload 5, 2) := by decide +kernel
theorem dX12_copy_64 : decode cX12_copy 64 = .ok (.isub, 1) := by decide +kernel
theorem dX12_copy_65 : decode cX12_copy 65 = .ok (.invokestatic 139, 3) := by decide +kernel
theorem dX12_copy_68 : decode cX12_copy 68 = .ok (.ifCond .eq 17, 3) := by decide +kernel
theorem dX12_copy_71 : decode cX12_copy 71 = .ok (.iload 4, 2) := by decide +kernel
theorem dX12_copy_73 : decode cX12_copy 73 = .ok (.iconst 0, 1) := by decide +kernel
theorem dX12_copy_74 : decode cX12_copy 74 = .ok (.bipush 16, 2) := by decide +kernel
theorem dX12_copy_76 : decode cX12_copy 76 = .ok (.iload 5, 2) := by decide +kernel
theorem dX12_copy_78 : decode cX12_copy 78 = .ok (.isub, 1) := by decide +kernel
theorem dX12_copy_79 : decode cX12_copy 79 = .ok (.invokestatic 139, 3) := by decide +kernel
theorem dX12_copy_82 : decode cX12_copy 82 = .ok (.ifCond .ne 6, 3) := by decide +kernel
theorem dX12_copy_85 : decode cX12_copy 85 = .ok (.bipush (-13), 2) := by decide +kernel
theorem dX12_copy_87 : decode cX12_copy 87 = .ok (.ireturn, 1) := by decide +kernel
theorem dX12_copy_88 : decode cX12_copy 88 = .ok (.aload_n 0, 1) := by decide +kernel
theorem dX12_copy_89 : decode cX12_copy 89 = .ok (.invokevirtual 143, 3) := by decide +kernel
theorem dX12_copy_92 : decode cX12_copy 92 = .ok (.iconst 0, 1) := by decide +kernel
theorem dX12_copy_93 : decode cX12_copy 93 = .ok (.istore 6, 2) := by decide +kernel
theorem dX12_copy_95 : decode cX12_copy 95 = .ok (.iload 6, 2) := by decide +kernel
theorem dX12_copy_97 : decode cX12_copy 97 = .ok (.iload 5, 2) := by decide +kernel
theorem dX12_copy_99 : decode cX12_copy 99 = .ok (.if_icmp .ge 58, 3) := by decide +kernel
theorem dX12_copy_102 : decode cX12_copy 102 = .ok (.iload 4, 2) := by decide +kernel
theorem dX12_copy_104 : decode cX12_copy 104 = .ok (.iload_n 2, 1) := by decide +kernel
theorem dX12_copy_105 : decode cX12_copy 105 = .ok (.if_icmp .le 13, 3) := by decide +kernel
theorem dX12_copy_108 : decode cX12_copy 108 = .ok (.iload 5, 2) := by decide +kernel
theorem dX12_copy_110 : decode cX12_copy 110 = .ok (.iconst 1, 1) := by decide +kernel
theorem dX12_copy_111 : decode cX12_copy 111 = .ok (.isub, 1) := by decide +kernel
theorem dX12_copy_112 : decode cX12_copy 112 = .ok (.iload 6, 2) := by decide +kernel
theorem dX12_copy_114 : decode cX12_copy 114 = .ok (.isub, 1) := by decide +kernel
theorem dX12_copy_115 : decode cX12_copy 115 = .ok (.goto 5, 3) := by decide +kernel
theorem dX12_copy_118 : decode cX12_copy 118 = .ok (.iload 6, 2) := by decide +kernel
theorem dX12_copy_120 : decode cX12_copy 120 = .ok (.istore 7, 2) := by decide +kernel
theorem dX12_copy_122 : decode cX12_copy 122 = .ok (.aload_n 0, 1) := by decide +kernel
theorem dX12_copy_123 : decode cX12_copy 123 = .ok (.getfield 13, 3) := by decide +kernel
theorem dX12_copy_126 : decode cX12_copy 126 = .ok (.bipush 16, 2) := by decide +kernel
theorem dX12_copy_128 : decode cX12_copy 128 = .ok (.iload_n 3, 1) := by decide +kernel
theorem dX12_copy_129 : decode cX12_copy 129 = .ok (.imul, 1) := by decide +kernel
theorem dX12_copy_130 : decode cX12_copy 130 = .ok (.iload 4, 2) := by decide +kernel
theorem dX12_copy_132 : decode cX12_copy 132 = .ok (.iadd, 1) := by decide +kernel
theorem dX12_copy_133 : decode cX12_copy 133 = .ok (.iload 7, 2) := by decide +kernel
theorem dX12_copy_135 : decode cX12_copy 135 = .ok (.iadd, 1) := by decide +kernel
theorem dX12_copy_136 : decode cX12_copy 136 = .ok (.aload_n 0, 1) := by decide +kernel
theorem dX12_copy_137 : decode cX12_copy 137 = .ok (.getfield 13, 3) := by decide +kernel
theorem dX12_copy_140 : decode cX12_copy 140 = .ok (.bipush 16, 2) := by decide +kernel
theorem dX12_copy_142 : decode cX12_copy 142 = .ok (.iload_n 1, 1) := by decide +kernel
theorem dX12_copy_143 : decode cX12_copy 143 = .ok (.imul, 1) := by decide +kernel
theorem dX12_copy_144 : decode cX12_copy 144 = .ok (.iload_n 2, 1) := by decide +kernel
theorem dX12_copy_145 : decode cX12_copy 145 = .ok (.iadd, 1) := by decide +kernel
theorem dX12_copy_146 : decode cX12_copy 146 = .ok (.iload 7, 2) := by decide +kernel
theorem dX12_copy_148 : decode cX12_copy 148 = .ok (.iadd, 1) := by decide +kernel
theorem dX12_copy_149 : decode cX12_copy 149 = .ok (.iaload, 1) := by decide +kernel
theorem dX12_copy_150 : decode cX12_copy 150 = .ok (.iastore, 1) := by decide +kernel
theorem dX12_copy_151 : decode cX12_copy 151 = .ok (.iinc 6 1, 3) := by decide +kernel
theorem dX12_copy_154 : decode cX12_copy 154 = .ok (.goto (-59), 3) := by decide +kernel
theorem dX12_copy_157 : decode cX12_copy 157 = .ok (.iload 5, 2) := by decide +kernel
theorem dX12_copy_159 : decode cX12_copy 159 = .ok (.ireturn, 1) := by decide +kernel
theorem dX12_box_0 : decode cX12_box 0 = .ok (.aload_n 0, 1) := by decide +kernel
theorem dX12_box_1 : decode cX12_box 1 = .ok (.iconst 0, 1) := by decide +kernel
theorem dX12_box_2 : decode cX12_box 2 = .ok (.putfield 113, 3) := by decide +kernel
theorem dX12_box_5 : decode cX12_box 5 = .ok (.iload_n 1, 1) := by decide +kernel
theorem dX12_box_6 : decode cX12_box 6 = .ok (.iconst 1, 1) := by decide +kernel
theorem dX12_box_7 : decode cX12_box 7 = .ok (.iconst 4, 1) := by decide +kernel
theorem dX12_box_8 : decode cX12_box 8 = .ok (.invokestatic 139, 3) := by decide +kernel
theorem dX12_box_11 : decode cX12_box 11 = .ok (.ifCond .eq 21, 3) := by decide +kernel
theorem dX12_box_14 : decode cX12_box 14 = .ok (.iload_n 2, 1) := by decide +kernel
theorem dX12_box_15 : decode cX12_box 15 = .ok (.iconst 1, 1) := by decide +kernel
theorem dX12_box_16 : decode cX12_box 16 = .ok (.iconst 4, 1) := by decide +kernel
theorem dX12_box_17 : decode cX12_box 17 = .ok (.invokestatic 139, 3) := by decide +kernel
theorem dX12_box_20 : decode cX12_box 20 = .ok (.ifCond .eq 12, 3) := by decide +kernel
theorem dX12_box_23 : decode cX12_box 23 = .ok (.iload_n 3, 1) := by decide +kernel
theorem dX12_box_24 : decode cX12_box 24 = .ok (.iconst 1, 1) := by decide +kernel
theorem dX12_box_25 : decode cX12_box 25 = .ok (.iconst 4, 1) := by decide +kernel
theorem dX12_box_26 : decode cX12_box 26 = .ok (.invokestatic 139, 3) := by decide +kernel
theorem dX12_box_29 : decode cX12_box 29 = .ok (.ifCond .ne 6, 3) := by decide +kernel
theorem dX12_box_32 : decode cX12_box 32 = .ok (.bipush (-3), 2) := by decide +kernel
theorem dX12_box_34 : decode cX12_box 34 = .ok (.ireturn, 1) := by decide +kernel
theorem dX12_box_35 : decode cX12_box 35 = .ok (.aload_n 0, 1) := by decide +kernel
theorem dX12_box_36 : decode cX12_box 36 = .ok (.invokevirtual 143, 3) := by decide +kernel
theorem dX12_box_39 : decode cX12_box 39 = .ok (.iconst 0, 1) := by decide +kernel
theorem dX12_box_40 : decode cX12_box 40 = .ok (.istore 4, 2) := by decide +kernel
theorem dX12_box_42 : decode cX12_box 42 = .ok (.iload 4, 2) := by decide +kernel
theorem dX12_box_44 : decode cX12_box 44 = .ok (.bipush 64, 2) := by decide +kernel
theorem dX12_box_46 : decode cX12_box 46 = .ok (.if_icmp .ge 48, 3) := by decide +kernel
theorem dX12_box_49 : decode cX12_box 49 = .ok (.aload_n 0, 1) := by decide +kernel
theorem dX12_box_50 : decode cX12_box 50 = .ok (.getfield 13, 3) := by decide +kernel
theorem dX12_box_53 : decode cX12_box 53 = .ok (.iload 4, 2) := by decide +kernel
theorem dX12_box_55 : decode cX12_box 55 = .ok (.iload 4, 2) := by decide +kernel
theorem dX12_box_57 : decode cX12_box 57 = .ok (.iconst 4, 1) := by decide +kernel
theorem dX12_box_58 : decode cX12_box 58 = .ok (.irem, 1) := by decide +kernel
theorem dX12_box_59 : decode cX12_box 59 = .ok (.iload_n 1, 1) := by decide +kernel
theorem dX12_box_60 : decode cX12_box 60 = .ok (.if_icmp .ge 26, 3) := by decide +kernel
theorem dX12_box_63 : decode cX12_box 63 = .ok (.iload 4, 2) := by decide +kernel
theorem dX12_box_65 : decode cX12_box 65 = .ok (.iconst 4, 1) := by decide +kernel
theorem dX12_box_66 : decode cX12_box 66 = .ok (.idiv, 1) := by decide +kernel
theorem dX12_box_67 : decode cX12_box 67 = .ok (.iconst 4, 1) := by decide +kernel
theorem dX12_box_68 : decode cX12_box 68 = .ok (.irem, 1) := by decide +kernel
theorem dX12_box_69 : decode cX12_box 69 = .ok (.iload_n 2, 1) := by decide +kernel
theorem dX12_box_70 : decode cX12_box 70 = .ok (.if_icmp .ge 16, 3) := by decide +kernel
theorem dX12_box_73 : decode cX12_box 73 = .ok (.iload 4, 2) := by decide +kernel
theorem dX12_box_75 : decode cX12_box 75 = .ok (.bipush 16, 2) := by decide +kernel
theorem dX12_box_77 : decode cX12_box 77 = .ok (.idiv, 1) := by decide +kernel
theorem dX12_box_78 : decode cX12_box 78 = .ok (.iload_n 3, 1) := by decide +kernel
theorem dX12_box_79 : decode cX12_box 79 = .ok (.if_icmp .ge 7, 3) := by decide +kernel
theorem dX12_box_82 : decode cX12_box 82 = .ok (.iconst 1, 1) := by decide +kernel
theorem dX12_box_83 : decode cX12_box 83 = .ok (.goto 4, 3) := by decide +kernel
theorem dX12_box_86 : decode cX12_box 86 = .ok (.iconst 0, 1) := by decide +kernel
theorem dX12_box_87 : decode cX12_box 87 = .ok (.iastore, 1) := by decide +kernel
theorem dX12_box_88 : decode cX12_box 88 = .ok (.iinc 4 1, 3) := by decide +kernel
theorem dX12_box_91 : decode cX12_box 91 = .ok (.goto (-49), 3) := by decide +kernel
theorem dX12_box_94 : decode cX12_box 94 = .ok (.iconst 0, 1) := by decide +kernel
theorem dX12_box_95 : decode cX12_box 95 = .ok (.istore 4, 2) := by decide +kernel
theorem dX12_box_97 : decode cX12_box 97 = .ok (.iload 4, 2) := by decide +kernel
theorem dX12_box_99 : decode cX12_box 99 = .ok (.iconst 4, 1) := by decide +kernel
theorem dX12_box_100 : decode cX12_box 100 = .ok (.if_icmp .ge 27, 3) := by decide +kernel
theorem dX12_box_103 : decode cX12_box 103 = .ok (.aload_n 0, 1) := by decide +kernel
theorem dX12_box_104 : decode cX12_box 104 = .ok (.getfield 7, 3) := by decide +kernel
theorem dX12_box_107 : decode cX12_box 107 = .ok (.iload 4, 2) := by decide +kernel
theorem dX12_box_109 : decode cX12_box 109 = .ok (.iload 4, 2) := by decide +kernel
theorem dX12_box_111 : decode cX12_box 111 = .ok (.iload_n 3, 1) := by decide +kernel
theorem dX12_box_112 : decode cX12_box 112 = .ok (.if_icmp .ge 7, 3) := by decide +kernel
theorem dX12_box_115 : decode cX12_box 115 = .ok (.iconst 1, 1) := by decide +kernel
theorem dX12_box_116 : decode cX12_box 116 = .ok (.goto 4, 3) := by decide +kernel
theorem dX12_box_119 : decode cX12_box 119 = .ok (.iconst 0, 1) := by decide +kernel
theorem dX12_box_120 : decode cX12_box 120 = .ok (.iastore, 1) := by decide +kernel
theorem dX12_box_121 : decode cX12_box 121 = .ok (.iinc 4 1, 3) := by decide +kernel
theorem dX12_box_124 : decode cX12_box 124 = .ok (.goto (-27), 3) := by decide +kernel
theorem dX12_box_127 : decode cX12_box 127 = .ok (.iload_n 1, 1) := by decide +kernel
theorem dX12_box_128 : decode cX12_box 128 = .ok (.iload_n 2, 1) := by decide +kernel
theorem dX12_box_129 : decode cX12_box 129 = .ok (.imul, 1) := by decide +kernel
theorem dX12_box_130 : decode cX12_box 130 = .ok (.iload_n 3, 1) := by decide +kernel
theorem dX12_box_131 : decode cX12_box 131 = .ok (.imul, 1) := by decide +kernel
theorem dX12_box_132 : decode cX12_box 132 = .ok (.ireturn, 1) := by decide +kernel
theorem dX12_cubeAt_0 : decode cX12_cubeAt 0 = .ok (.iload_n 1, 1) := by decide +kernel
theorem dX12_cubeAt_1 : decode cX12_cubeAt 1 = .ok (.iconst 0, 1) := by decide +kernel
theorem dX12_cubeAt_2 : decode cX12_cubeAt 2 = .ok (.iconst 3, 1) := by decide +kernel
theorem dX12_cubeAt_3 : decode cX12_cubeAt 3 = .ok (.invokestatic 139, 3) := by decide +kernel
theorem dX12_cubeAt_6 : decode cX12_cubeAt 6 = .ok (.ifCond .eq 39, 3) := by decide +kernel
theorem dX12_cubeAt_9 : decode cX12_cubeAt 9 = .ok (.iload_n 2, 1) := by decide +kernel
theorem dX12_cubeAt_10 : decode cX12_cubeAt 10 = .ok (.iconst 0, 1) := by decide +kernel
theorem dX12_cubeAt_11 : decode cX12_cubeAt 11 = .ok (.iconst 3, 1) := by decide +kernel
theorem dX12_cubeAt_12 : decode cX12_cubeAt 12 = .ok (.invokestatic 139, 3) := by decide +kernel
theorem dX12_cubeAt_15 : decode cX12_cubeAt 15 = .ok (.ifCond .eq 30, 3) := by decide +kernel
theorem dX12_cubeAt_18 : decode cX12_cubeAt 18 = .ok (.iload_n 3, 1) := by decide +kernel
theorem dX12_cubeAt_19 : decode cX12_cubeAt 19 = .ok (.iconst 0, 1) := by decide +kernel
theorem dX12_cubeAt_20 : decode cX12_cubeAt 20 = .ok (.iconst 3, 1) := by decide +kernel
theorem dX12_cubeAt_21 : decode cX12_cubeAt 21 = .ok (.invokestatic 139, 3) := by decide +kernel
theorem dX12_cubeAt_24 : decode cX12_cubeAt 24 = .ok (.ifCond .eq 21, 3) := by decide +kernel
theorem dX12_cubeAt_27 : decode cX12_cubeAt 27 = .ok (.aload_n 0, 1) := by decide +kernel
theorem dX12_cubeAt_28 : decode cX12_cubeAt 28 = .ok (.getfield 13, 3) := by decide +kernel
theorem dX12_cubeAt_31 : decode cX12_cubeAt 31 = .ok (.bipush 16, 2) := by decide +kernel
theorem dX12_cubeAt_33 : decode cX12_cubeAt 33 = .ok (.iload_n 3, 1) := by decide +kernel
theorem dX12_cubeAt_34 : decode cX12_cubeAt 34 = .ok (.imul, 1) := by decide +kernel
theorem dX12_cubeAt_35 : decode cX12_cubeAt 35 = .ok (.iconst 4, 1) := by decide +kernel
theorem dX12_cubeAt_36 : decode cX12_cubeAt 36 = .ok (.iload_n 2, 1) := by decide +kernel
theorem dX12_cubeAt_37 : decode cX12_cubeAt 37 = .ok (.imul, 1) := by decide +kernel
theorem dX12_cubeAt_38 : decode cX12_cubeAt 38 = .ok (.iadd, 1) := by decide +kernel
theorem dX12_cubeAt_39 : decode cX12_cubeAt 39 = .ok (.iload_n 1, 1) := by decide +kernel
theorem dX12_cubeAt_40 : decode cX12_cubeAt 40 = .ok (.iadd, 1) := by decide +kernel
theorem dX12_cubeAt_41 : decode cX12_cubeAt 41 = .ok (.iaload, 1) := by decide +kernel
theorem dX12_cubeAt_42 : decode cX12_cubeAt 42 = .ok (.goto 4, 3) := by decide +kernel
theorem dX12_cubeAt_45 : decode cX12_cubeAt 45 = .ok (.iconst 0, 1) := by decide +kernel
theorem dX12_cubeAt_46 : decode cX12_cubeAt 46 = .ok (.ireturn, 1) := by decide +kernel
theorem dX12_alongOf_0 : decode cX12_alongOf 0 = .ok (.iload_n 0, 1) := by decide +kernel
theorem dX12_alongOf_1 : decode cX12_alongOf 1 = .ok (.iconst 2, 1) := by decide +kernel
theorem dX12_alongOf_2 : decode cX12_alongOf 2 = .ok (.idiv, 1) := by decide +kernel
theorem dX12_alongOf_3 : decode cX12_alongOf 3 = .ok (.iload_n 1, 1) := by decide +kernel
theorem dX12_alongOf_4 : decode cX12_alongOf 4 = .ok (.if_icmp .eq 7, 3) := by decide +kernel
theorem dX12_alongOf_7 : decode cX12_alongOf 7 = .ok (.iconst 0, 1) := by decide +kernel
theorem dX12_alongOf_8 : decode cX12_alongOf 8 = .ok (.goto 14, 3) := by decide +kernel
theorem dX12_alongOf_11 : decode cX12_alongOf 11 = .ok (.iload_n 0, 1) := by decide +kernel
theorem dX12_alongOf_12 : decode cX12_alongOf 12 = .ok (.iconst 2, 1) := by decide +kernel
theorem dX12_alongOf_13 : decode cX12_alongOf 13 = .ok (.irem, 1) := by decide +kernel
theorem dX12_alongOf_14 : decode cX12_alongOf 14 = .ok (.ifCond .ne 7, 3) := by decide +kernel
theorem dX12_alongOf_17 : decode cX12_alongOf 17 = .ok (.iconst 1, 1) := by decide +kernel
theorem dX12_alongOf_18 : decode cX12_alongOf 18 = .ok (.goto 4, 3) := by decide +kernel
theorem dX12_alongOf_21 : decode cX12_alongOf 21 = .ok (.iconst (-1), 1) := by decide +kernel
theorem dX12_alongOf_22 : decode cX12_alongOf 22 = .ok (.ireturn, 1) := by decide +kernel
theorem dX12_padded_0 : decode cX12_padded 0 = .ok (.aload_n 0, 1) := by decide +kernel
theorem dX12_padded_1 : decode cX12_padded 1 = .ok (.iload_n 1, 1) := by decide +kernel
theorem dX12_padded_2 : decode cX12_padded 2 = .ok (.bipush 6, 2) := by decide +kernel
theorem dX12_padded_4 : decode cX12_padded 4 = .ok (.irem, 1) := by decide +kernel
theorem dX12_padded_5 : decode cX12_padded 5 = .ok (.iconst 1, 1) := by decide +kernel
theorem dX12_padded_6 : decode cX12_padded 6 = .ok (.isub, 1) := by decide +kernel
theorem dX12_padded_7 : decode cX12_padded 7 = .ok (.iload_n 1, 1) := by decide +kernel
theorem dX12_padded_8 : decode cX12_padded 8 = .ok (.bipush 6, 2) := by decide +kernel
theorem dX12_padded_10 : decode cX12_padded 10 = .ok (.idiv, 1) := by decide +kernel
theorem dX12_padded_11 : decode cX12_padded 11 = .ok (.bipush 6, 2) := by decide +kernel
theorem dX12_padded_13 : decode cX12_padded 13 = .ok (.irem, 1) := by decide +kernel
theorem dX12_padded_14 : decode cX12_padded 14 = .ok (.iconst 1, 1) := by decide +kernel
theorem dX12_padded_15 : decode cX12_padded 15 = .ok (.isub, 1) := by decide +kernel
theorem dX12_padded_16 : decode cX12_padded 16 = .ok (.iload_n 1, 1) := by decide +kernel
theorem dX12_padded_17 : decode cX12_padded 17 = .ok (.bipush 36, 2) := by decide +kernel
theorem dX12_padded_19 : decode cX12_padded 19 = .ok (.idiv, 1) := by decide +kernel
theorem dX12_padded_20 : decode cX12_padded 20 = .ok (.iconst 1, 1) := by decide +kernel
theorem dX12_padded_21 : decode cX12_padded 21 = .ok (.isub, 1) := by decide +kernel
theorem dX12_padded_22 : decode cX12_padded 22 = .ok (.invokevirtual 150, 3) := by decide +kernel
theorem dX12_padded_25 : decode cX12_padded 25 = .ok (.ireturn, 1) := by decide +kernel
theorem dX12_step_0 : decode cX12_step 0 = .ok (.iload_n 0, 1) := by decide +kernel
theorem dX12_step_1 : decode cX12_step 1 = .ok (.bipush 6, 2) := by decide +kernel
theorem dX12_step_3 : decode cX12_step 3 = .ok (.irem, 1) := by decide +kernel
theorem dX12_step_4 : decode cX12_step 4 = .ok (.iload_n 1, 1) := by decide +kernel
theorem dX12_step_5 : decode cX12_step 5 = .ok (.iconst 0, 1) := by decide +kernel
theorem dX12_step_6 : decode cX12_step 6 = .ok (.invokestatic 154, 3) := by decide +kernel
theorem dX12_step_9 : decode cX12_step 9 = .ok (.iadd, 1) := by decide +kernel
theorem dX12_step_10 : decode cX12_step 10 = .ok (.istore_n 2, 1) := by decide +kernel
theorem dX12_step_11 : decode cX12_step 11 = .ok (.iload_n 0, 1) := by decide +kernel
theorem dX12_step_12 : decode cX12_step 12 = .ok (.bipush 6, 2) := by decide +kernel
theorem dX12_step_14 : decode cX12_step 14 = .ok (.idiv, 1) := by decide +kernel
theorem dX12_step_15 : decode cX12_step 15 = .ok (.bipush 6, 2) := by decide +kernel
theorem dX12_step_17 : decode cX12_step 17 = .ok (.irem, 1) := by decide +kernel
theorem dX12_step_18 : decode cX12_step 18 = .ok (.iload_n 1, 1) := by decide +kernel
theorem dX12_step_19 : decode cX12_step 19 = .ok (.iconst 1, 1) := by decide +kernel
theorem dX12_step_20 : decode cX12_step 20 = .ok (.invokestatic 154, 3) := by decide +kernel
theorem dX12_step_23 : decode cX12_step 23 = .ok (.iadd, 1) := by decide +kernel
theorem dX12_step_24 : decode cX12_step 24 = .ok (.istore_n 3, 1) := by decide +kernel
theorem dX12_step_25 : decode cX12_step 25 = .ok (.iload_n 0, 1) := by decide +kernel
theorem dX12_step_26 : decode cX12_step 26 = .ok (.bipush 36, 2) := by decide +kernel
theorem dX12_step_28 : decode cX12_step 28 = .ok (.idiv, 1) := by decide +kernel
theorem dX12_step_29 : decode cX12_step 29 = .ok (.iload_n 1, 1) := by decide +kernel
theorem dX12_step_30 : decode cX12_step 30 = .ok (.iconst 2, 1) := by decide +kernel
theorem dX12_step_31 : decode cX12_step 31 = .ok (.invokestatic 154, 3) := by decide +kernel
theorem dX12_step_34 : decode cX12_step 34 = .ok (.iadd, 1) := by decide +kernel
theorem dX12_step_35 : decode cX12_step 35 = .ok (.istore 4, 2) := by decide +kernel
theorem dX12_step_37 : decode cX12_step 37 = .ok (.iload_n 2, 1) := by decide +kernel
theorem dX12_step_38 : decode cX12_step 38 = .ok (.iconst 0, 1) := by decide +kernel
theorem dX12_step_39 : decode cX12_step 39 = .ok (.iconst 5, 1) := by decide +kernel
theorem dX12_step_40 : decode cX12_step 40 = .ok (.invokestatic 139, 3) := by decide +kernel
theorem dX12_step_43 : decode cX12_step 43 = .ok (.ifCond .eq 37, 3) := by decide +kernel
theorem dX12_step_46 : decode cX12_step 46 = .ok (.iload_n 3, 1) := by decide +kernel
theorem dX12_step_47 : decode cX12_step 47 = .ok (.iconst 0, 1) := by decide +kernel
theorem dX12_step_48 : decode cX12_step 48 = .ok (.iconst 5, 1) := by decide +kernel
theorem dX12_step_49 : decode cX12_step 49 = .ok (.invokestatic 139, 3) := by decide +kernel
theorem dX12_step_52 : decode cX12_step 52 = .ok (.ifCond .eq 28, 3) := by decide +kernel
theorem dX12_step_55 : decode cX12_step 55 = .ok (.iload 4, 2) := by decide +kernel
theorem dX12_step_57 : decode cX12_step 57 = .ok (.iconst 0, 1) := by decide +kernel
theorem dX12_step_58 : decode cX12_step 58 = .ok (.iconst 5, 1) := by decide +kernel
theorem dX12_step_59 : decode cX12_step 59 = .ok (.invokestatic 139, 3) := by decide +kernel
theorem dX12_step_62 : decode cX12_step 62 = .ok (.ifCond .eq 18, 3) := by decide +kernel
theorem dX12_step_65 : decode cX12_step 65 = .ok (.bipush 36, 2) := by decide +kernel
theorem dX12_step_67 : decode cX12_step 67 = .ok (.iload 4, 2) := by decide +kernel
theorem dX12_step_69 : decode cX12_step 69 = .ok (.imul, 1) := by decide +kernel
theorem dX12_step_70 : decode cX12_step 70 = .ok (.bipush 6, 2) := by decide +kernel
theorem dX12_step_72 : decode cX12_step 72 = .ok (.iload_n 3, 1) := by decide +kernel
theorem dX12_step_73 : decode cX12_step 73 = .ok (.imul, 1) := by decide +kernel
theorem dX12_step_74 : decode cX12_step 74 = .ok (.iadd, 1) := by decide +kernel
theorem dX12_step_75 : decode cX12_step 75 = .ok (.iload_n 2, 1) := by decide +kernel
theorem dX12_step_76 : decode cX12_step 76 = .ok (.iadd, 1) := by decide +kernel
theorem dX12_step_77 : decode cX12_step 77 = .ok (.goto 4, 3) := by decide +kernel
theorem dX12_step_80 : decode cX12_step 80 = .ok (.iconst (-1), 1) := by decide +kernel
theorem dX12_step_81 : decode cX12_step 81 = .ok (.ireturn, 1) := by decide +kernel
theorem dX12_hang_0 : decode cX12_hang 0 = .ok (.iconst 0, 1) := by decide +kernel
theorem dX12_hang_1 : decode cX12_hang 1 = .ok (.istore_n 2, 1) := by decide +kernel
theorem dX12_hang_2 : decode cX12_hang 2 = .ok (.iconst (-1), 1) := by decide +kernel
theorem dX12_hang_3 : decode cX12_hang 3 = .ok (.istore_n 3, 1) := by decide +kernel
theorem dX12_hang_4 : decode cX12_hang 4 = .ok (.iconst 0, 1) := by decide +kernel
theorem dX12_hang_5 : decode cX12_hang 5 = .ok (.istore 4, 2) := by decide +kernel
theorem dX12_hang_7 : decode cX12_hang 7 = .ok (.iload 4, 2) := by decide +kernel
theorem dX12_hang_9 : decode cX12_hang 9 = .ok (.sipush 216, 3) := by decide +kernel
theorem dX12_hang_12 : decode cX12_hang 12 = .ok (.if_icmp .ge 42, 3) := by decide +kernel
theorem dX12_hang_15 : decode cX12_hang 15 = .ok (.aload_n 0, 1) := by decide +kernel
theorem dX12_hang_16 : decode cX12_hang 16 = .ok (.getfield 40, 3) := by decide +kernel
theorem dX12_hang_19 : decode cX12_hang 19 = .ok (.iload 4, 2) := by decide +kernel
theorem dX12_hang_21 : decode cX12_hang 21 = .ok (.iconst 0, 1) := by decide +kernel
theorem dX12_hang_22 : decode cX12_hang 22 = .ok (.iastore, 1) := by decide +kernel
theorem dX12_hang_23 : decode cX12_hang 23 = .ok (.aload_n 0, 1) := by decide +kernel
theorem dX12_hang_24 : decode cX12_hang 24 = .ok (.iload 4, 2) := by decide +kernel
theorem dX12_hang_26 : decode cX12_hang 26 = .ok (.invokevirtual 158, 3) := by decide +kernel
theorem dX12_hang_29 : decode cX12_hang 29 = .ok (.iload_n 1, 1) := by decide +kernel
theorem dX12_hang_30 : decode cX12_hang 30 = .ok (.if_icmp .ne 18, 3) := by decide +kernel
theorem dX12_hang_33 : decode cX12_hang 33 = .ok (.iload_n 3, 1) := by decide +kernel
theorem dX12_hang_34 : decode cX12_hang 34 = .ok (.iconst (-1), 1) := by decide +kernel
theorem dX12_hang_35 : decode cX12_hang 35 = .ok (.if_icmp .ne 8, 3) := by decide +kernel
theorem dX12_hang_38 : decode cX12_hang 38 = .ok (.iload 4, 2) := by decide +kernel
theorem dX12_hang_40 : decode cX12_hang 40 = .ok (.goto 4, 3) := by decide +kernel
theorem dX12_hang_43 : decode cX12_hang 43 = .ok (.iload_n 3, 1) := by decide +kernel
theorem dX12_hang_44 : decode cX12_hang 44 = .ok (.istore_n 3, 1) := by decide +kernel
theorem dX12_hang_45 : decode cX12_hang 45 = .ok (.iinc 2 1, 3) := by decide +kernel
theorem dX12_hang_48 : decode cX12_hang 48 = .ok (.iinc 4 1, 3) := by decide +kernel
theorem dX12_hang_51 : decode cX12_hang 51 = .ok (.goto (-44), 3) := by decide +kernel
theorem dX12_hang_54 : decode cX12_hang 54 = .ok (.aload_n 0, 1) := by decide +kernel
theorem dX12_hang_55 : decode cX12_hang 55 = .ok (.getfield 40, 3) := by decide +kernel
theorem dX12_hang_58 : decode cX12_hang 58 = .ok (.iload_n 3, 1) := by decide +kernel
theorem dX12_hang_59 : decode cX12_hang 59 = .ok (.iconst 1, 1) := by decide +kernel
theorem dX12_hang_60 : decode cX12_hang 60 = .ok (.iastore, 1) := by decide +kernel
theorem dX12_hang_61 : decode cX12_hang 61 = .ok (.iconst 1, 1) := by decide +kernel
theorem dX12_hang_62 : decode cX12_hang 62 = .ok (.istore 4, 2) := by decide +kernel
theorem dX12_hang_64 : decode cX12_hang 64 = .ok (.iconst 1, 1) := by decide +kernel
theorem dX12_hang_65 : decode cX12_hang 65 = .ok (.istore 5, 2) := by decide +kernel
theorem dX12_hang_67 : decode cX12_hang 67 = .ok (.iload 5, 2) := by decide +kernel
theorem dX12_hang_69 : decode cX12_hang 69 = .ok (.ifCond .eq 102, 3) := by decide +kernel
theorem dX12_hang_72 : decode cX12_hang 72 = .ok (.iconst 0, 1) := by decide +kernel
theorem dX12_hang_73 : decode cX12_hang 73 = .ok (.istore 5, 2) := by decide +kernel
theorem dX12_hang_75 : decode cX12_hang 75 = .ok (.iconst 0, 1) := by decide +kernel
theorem dX12_hang_76 : decode cX12_hang 76 = .ok (.istore 6, 2) := by decide +kernel
theorem dX12_hang_78 : decode cX12_hang 78 = .ok (.iload 6, 2) := by decide +kernel
theorem dX12_hang_80 : decode cX12_hang 80 = .ok (.sipush 216, 3) := by decide +kernel
theorem dX12_hang_83 : decode cX12_hang 83 = .ok (.if_icmp .ge 85, 3) := by decide +kernel
theorem dX12_hang_86 : decode cX12_hang 86 = .ok (.iconst 0, 1) := by decide +kernel
theorem dX12_hang_87 : decode cX12_hang 87 = .ok (.istore 7, 2) := by decide +kernel
theorem dX12_hang_89 : decode cX12_hang 89 = .ok (.iload 7, 2) := by decide +kernel
theorem dX12_hang_91 : decode cX12_hang 91 = .ok (.bipush 6, 2) := by decide +kernel
theorem dX12_hang_93 : decode cX12_hang 93 = .ok (.if_icmp .ge 69, 3) := by decide +kernel
theorem dX12_hang_96 : decode cX12_hang 96 = .ok (.aload_n 0, 1) := by decide +kernel
theorem dX12_hang_97 : decode cX12_hang 97 = .ok (.getfield 40, 3) := by decide +kernel
theorem dX12_hang_100 : decode cX12_hang 100 = .ok (.iload 6, 2) := by decide +kernel
theorem dX12_hang_102 : decode cX12_hang 102 = .ok (.iaload, 1) := by decide +kernel
theorem dX12_hang_103 : decode cX12_hang 103 = .ok (.iconst 1, 1) := by decide +kernel
theorem dX12_hang_104 : decode cX12_hang 104 = .ok (.if_icmp .ne 58, 3) := by decide +kernel
theorem dX12_hang_107 : decode cX12_hang 107 = .ok (.iload 6, 2) := by decide +kernel
theorem dX12_hang_109 : decode cX12_hang 109 = .ok (.iload 7, 2) := by decide +kernel
theorem dX12_hang_111 : decode cX12_hang 111 = .ok (.invokestatic 161, 3) := by decide +kernel
theorem dX12_hang_114 : decode cX12_hang 114 = .ok (.istore 8, 2) := by decide +kernel
theorem dX12_hang_116 : decode cX12_hang 116 = .ok (.iload 8, 2) := by decide +kernel
theorem dX12_hang_118 : decode cX12_hang 118 = .ok (.iconst (-1), 1) := by decide +kernel
theorem dX12_hang_119 : decode cX12_hang 119 = .ok (.if_icmp .eq 37, 3) := by decide +kernel
theorem dX12_hang_122 : decode cX12_hang 122 = .ok (.aload_n 0, 1) := by decide +kernel
theorem dX12_hang_123 : decode cX12_hang 123 = .ok (.getfield 40, 3) := by decide +kernel
theorem dX12_hang_126 : decode cX12_hang 126 = .ok (.iload 8, 2) := by decide +kernel
theorem dX12_hang_128 : decode cX12_hang 128 = .ok (.iaload, 1) := by decide +kernel
theorem dX12_hang_129 : decode cX12_hang 129 = .ok (.ifCond .ne 27, 3) := by decide +kernel
theorem dX12_hang_132 : decode cX12_hang 132 = .ok (.aload_n 0, 1) := by decide +kernel
theorem dX12_hang_133 : decode cX12_hang 133 = .ok (.iload 8, 2) := by decide +kernel
theorem dX12_hang_135 : decode cX12_hang 135 = .ok (.invokevirtual 158, 3) := by decide +kernel
theorem dX12_hang_138 : decode cX12_hang 138 = .ok (.iload_n 1, 1) := by decide +kernel
theorem dX12_hang_139 : decode cX12_hang 139 = .ok (.if_icmp .ne 17, 3) := by decide +kernel
theorem dX12_hang_142 : decode cX12_hang 142 = .ok (.aload_n 0, 1) := by decide +kernel
theorem dX12_hang_143 : decode cX12_hang 143 = .ok (.getfield 40, 3) := by decide +kernel
theorem dX12_hang_146 : decode cX12_hang 146 = .ok (.iload 8, 2) := by decide +kernel
theorem dX12_hang_148 : decode cX12_hang 148 = .ok (.iconst 1, 1) := by decide +kernel
theorem dX12_hang_149 : decode cX12_hang 149 = .ok (.iastore, 1) := by decide +kernel
theorem dX12_hang_150 : decode cX12_hang 150 = .ok (.iinc 4 1, 3) := by decide +kernel
theorem dX12_hang_153 : decode cX12_hang 153 = .ok (.iconst 1, 1) := by decide +kernel
theorem dX12_hang_154 : decode cX12_hang 154 = .ok (.istore 5, 2) := by decide +kernel
theorem dX12_hang_156 : decode cX12_hang 156 = .ok (.iinc 7 1, 3) := by decide +kernel
theorem dX12_hang_159 : decode cX12_hang 159 = .ok (.goto (-70), 3) := by decide +kernel
theorem dX12_hang_162 : decode cX12_hang 162 = .ok (.iinc 6 1, 3) := by decide +kernel
theorem dX12_hang_165 : decode cX12_hang 165 = .ok (.goto (-87), 3) := by decide +kernel
theorem dX12_hang_168 : decode cX12_hang 168 = .ok (.goto (-101), 3) := by decide +kernel
theorem dX12_hang_171 : decode cX12_hang 171 = .ok (.iload 4, 2) := by decide +kernel
theorem dX12_hang_173 : decode cX12_hang 173 = .ok (.iload_n 2, 1) := by decide +kernel
theorem dX12_hang_174 : decode cX12_hang 174 = .ok (.if_icmp .ne 7, 3) := by decide +kernel
theorem dX12_hang_177 : decode cX12_hang 177 = .ok (.iconst 1, 1) := by decide +kernel
theorem dX12_hang_178 : decode cX12_hang 178 = .ok (.goto 4, 3) := by decide +kernel
theorem dX12_hang_181 : decode cX12_hang 181 = .ok (.iconst 0, 1) := by decide +kernel
theorem dX12_hang_182 : decode cX12_hang 182 = .ok (.ireturn, 1) := by decide +kernel
theorem dX12_areJoined_0 : decode cX12_areJoined 0 = .ok (.iconst 0, 1) := by decide +kernel
theorem dX12_areJoined_1 : decode cX12_areJoined 1 = .ok (.istore_n 2, 1) := by decide +kernel
theorem dX12_areJoined_2 : decode cX12_areJoined 2 = .ok (.iconst 0, 1) := by decide +kernel
theorem dX12_areJoined_3 : decode cX12_areJoined 3 = .ok (.istore_n 3, 1) := by decide +kernel
theorem dX12_areJoined_4 : decode cX12_areJoined 4 = .ok (.iconst 0, 1) := by decide +kernel
theorem dX12_areJoined_5 : decode cX12_areJoined 5 = .ok (.istore 4, 2) := by decide +kernel
theorem dX12_areJoined_7 : decode cX12_areJoined 7 = .ok (.iload 4, 2) := by decide +kernel
theorem dX12_areJoined_9 : decode cX12_areJoined 9 = .ok (.iload_n 1, 1) := by decide +kernel
theorem dX12_areJoined_10 : decode cX12_areJoined 10 = .ok (.if_icmp .ge 22, 3) := by decide +kernel
theorem dX12_areJoined_13 : decode cX12_areJoined 13 = .ok (.iload_n 3, 1) := by decide +kernel
theorem dX12_areJoined_14 : decode cX12_areJoined 14 = .ok (.aload_n 0, 1) := by decide +kernel
theorem dX12_areJoined_15 : decode cX12_areJoined 15 = .ok (.getfield 43, 3) := by decide +kernel
theorem dX12_areJoined_18 : decode cX12_areJoined 18 = .ok (.iload 4, 2) := by decide +kernel
theorem dX12_areJoined_20 : decode cX12_areJoined 20 = .ok (.iaload, 1) := by decide +kernel
theorem dX12_areJoined_21 : decode cX12_areJoined 21 = .ok (.iload 4, 2) := by decide +kernel
theorem dX12_areJoined_23 : decode cX12_areJoined 23 = .ok (.ishl, 1) := by decide +kernel
theorem dX12_areJoined_24 : decode cX12_areJoined 24 = .ok (.ior, 1) := by decide +kernel
theorem dX12_areJoined_25 : decode cX12_areJoined 25 = .ok (.istore_n 3, 1) := by decide +kernel
theorem dX12_areJoined_26 : decode cX12_areJoined 26 = .ok (.iinc 4 1, 3) := by decide +kernel
theorem dX12_areJoined_29 : decode cX12_areJoined 29 = .ok (.goto (-22), 3) := by decide +kernel
theorem dX12_areJoined_32 : decode cX12_areJoined 32 = .ok (.iload_n 3, 1) := by decide +kernel
theorem dX12_areJoined_33 : decode cX12_areJoined 33 = .ok (.iload_n 3, 1) := by decide +kernel
theorem dX12_areJoined_34 : decode cX12_areJoined 34 = .ok (.ineg, 1) := by decide +kernel
theorem dX12_areJoined_35 : decode cX12_areJoined 35 = .ok (.iand, 1) := by decide +kernel
theorem dX12_areJoined_36 : decode cX12_areJoined 36 = .ok (.istore_n 2, 1) := by decide +kernel
theorem dX12_areJoined_37 : decode cX12_areJoined 37 = .ok (.iconst 0, 1) := by decide +kernel
theorem dX12_areJoined_38 : decode cX12_areJoined 38 = .ok (.istore 4, 2) := by decide +kernel
theorem dX12_areJoined_40 : decode cX12_areJoined 40 = .ok (.iload 4, 2) := by decide +kernel
theorem dX12_areJoined_42 : decode cX12_areJoined 42 = .ok (.bipush 8, 2) := by decide +kernel
theorem dX12_areJoined_44 : decode cX12_areJoined 44 = .ok (.if_icmp .ge 64, 3) := by decide +kernel
theorem dX12_areJoined_47 : decode cX12_areJoined 47 = .ok (.iconst 0, 1) := by decide +kernel
theorem dX12_areJoined_48 : decode cX12_areJoined 48 = .ok (.istore 5, 2) := by decide +kernel
theorem dX12_areJoined_50 : decode cX12_areJoined 50 = .ok (.iload 5, 2) := by decide +kernel
theorem dX12_areJoined_52 : decode cX12_areJoined 52 = .ok (.iload_n 1, 1) := by decide +kernel
theorem dX12_areJoined_53 : decode cX12_areJoined 53 = .ok (.if_icmp .ge 49, 3) := by decide +kernel
theorem dX12_areJoined_56 : decode cX12_areJoined 56 = .ok (.iconst 1, 1) := by decide +kernel
theorem dX12_areJoined_57 : decode cX12_areJoined 57 = .ok (.istore 6, 2) := by decide +kernel
theorem dX12_areJoined_59 : decode cX12_areJoined 59 = .ok (.iload 6, 2) := by decide +kernel
theorem dX12_areJoined_61 : decode cX12_areJoined 61 = .ok (.iload_n 1, 1) := by decide +kernel
theorem dX12_areJoined_62 : decode cX12_areJoined 62 = .ok (.if_icmp .ge 34, 3) := by decide +kernel
theorem dX12_areJoined_65 : decode cX12_areJoined 65 = .ok (.iload_n 2, 1) := by decide +kernel
theorem dX12_areJoined_66 : decode cX12_areJoined 66 = .ok (.iload 5, 2) := by decide +kernel
theorem dX12_areJoined_68 : decode cX12_areJoined 68 = .ok (.ishr, 1) := by decide +kernel
theorem dX12_areJoined_69 : decode cX12_areJoined 69 = .ok (.iconst 1, 1) := by decide +kernel
theorem dX12_areJoined_70 : decode cX12_areJoined 70 = .ok (.iand, 1) := by decide +kernel
theorem dX12_areJoined_71 : decode cX12_areJoined 71 = .ok (.iconst 1, 1) := by decide +kernel
theorem dX12_areJoined_72 : decode cX12_areJoined 72 = .ok (.if_icmp .ne 24, 3) := by decide +kernel
theorem dX12_areJoined_75 : decode cX12_areJoined 75 = .ok (.iload_n 2, 1) := by decide +kernel
theorem dX12_areJoined_76 : decode cX12_areJoined 76 = .ok (.iload_n 3, 1) := by decide +kernel
theorem dX12_areJoined_77 : decode cX12_areJoined 77 = .ok (.iconst 1, 1) := by decide +kernel
theorem dX12_areJoined_78 : decode cX12_areJoined 78 = .ok (.iload 5, 2) := by decide +kernel
theorem dX12_areJoined_80 : decode cX12_areJoined 80 = .ok (.iload 6, 2) := by decide +kernel
theorem dX12_areJoined_82 : decode cX12_areJoined 82 = .ok (.ixor, 1) := by decide +kernel
theorem dX12_areJoined_83 : decode cX12_areJoined 83 = .ok (.ishl, 1) := by decide +kernel
theorem dX12_areJoined_84 : decode cX12_areJoined 84 = .ok (.iand, 1) := by decide +kernel
theorem dX12_areJoined_85 : decode cX12_areJoined 85 = .ok (.ior, 1) := by decide +kernel
theorem dX12_areJoined_86 : decode cX12_areJoined 86 = .ok (.istore_n 2, 1) := by decide +kernel
theorem dX12_areJoined_87 : decode cX12_areJoined 87 = .ok (.iload 6, 2) := by decide +kernel
theorem dX12_areJoined_89 : decode cX12_areJoined 89 = .ok (.iconst 2, 1) := by decide +kernel
theorem dX12_areJoined_90 : decode cX12_areJoined 90 = .ok (.imul, 1) := by decide +kernel
theorem dX12_areJoined_91 : decode cX12_areJoined 91 = .ok (.istore 6, 2) := by decide +kernel
theorem dX12_areJoined_93 : decode cX12_areJoined 93 = .ok (.goto (-34), 3) := by decide +kernel
theorem dX12_areJoined_96 : decode cX12_areJoined 96 = .ok (.iinc 5 1, 3) := by decide +kernel
theorem dX12_areJoined_99 : decode cX12_areJoined 99 = .ok (.goto (-49), 3) := by decide +kernel
theorem dX12_areJoined_102 : decode cX12_areJoined 102 = .ok (.iinc 4 1, 3) := by decide +kernel
theorem dX12_areJoined_105 : decode cX12_areJoined 105 = .ok (.goto (-65), 3) := by decide +kernel
theorem dX12_areJoined_108 : decode cX12_areJoined 108 = .ok (.iload_n 2, 1) := by decide +kernel
theorem dX12_areJoined_109 : decode cX12_areJoined 109 = .ok (.iload_n 3, 1) := by decide +kernel
theorem dX12_areJoined_110 : decode cX12_areJoined 110 = .ok (.if_icmp .ne 7, 3) := by decide +kernel
theorem dX12_areJoined_113 : decode cX12_areJoined 113 = .ok (.iconst 1, 1) := by decide +kernel
theorem dX12_areJoined_114 : decode cX12_areJoined 114 = .ok (.goto 4, 3) := by decide +kernel
theorem dX12_areJoined_117 : decode cX12_areJoined 117 = .ok (.iconst 0, 1) := by decide +kernel
theorem dX12_areJoined_118 : decode cX12_areJoined 118 = .ok (.ireturn, 1) := by decide +kernel
theorem dX12_isCornerWell_0 : decode cX12_isCornerWell 0 = .ok (.iconst 0, 1) := by decide +kernel
theorem dX12_isCornerWell_1 : decode cX12_isCornerWell 1 = .ok (.istore 4, 2) := by decide +kernel
theorem dX12_isCornerWell_3 : decode cX12_isCornerWell 3 = .ok (.iload 4, 2) := by decide +kernel
theorem dX12_isCornerWell_5 : decode cX12_isCornerWell 5 = .ok (.bipush 8, 2) := by decide +kernel
theorem dX12_isCornerWell_7 : decode cX12_isCornerWell 7 = .ok (.if_icmp .ge 40, 3) := by decide +kernel
theorem dX12_isCornerWell_10 : decode cX12_isCornerWell 10 = .ok (.aload_n 0, 1) := by decide +kernel
theorem dX12_isCornerWell_11 : decode cX12_isCornerWell 11 = .ok (.getfield 43, 3) := by decide +kernel
theorem dX12_isCornerWell_14 : decode cX12_isCornerWell 14 = .ok (.iload 4, 2) := by decide +kernel
theorem dX12_isCornerWell_16 : decode cX12_isCornerWell 16 = .ok (.aload_n 0, 1) := by decide +kernel
theorem dX12_isCornerWell_17 : decode cX12_isCornerWell 17 = .ok (.iload_n 1, 1) := by decide +kernel
theorem dX12_isCornerWell_18 : decode cX12_isCornerWell 18 = .ok (.iload 4, 2) := by decide +kernel
theorem dX12_isCornerWell_20 : decode cX12_isCornerWell 20 = .ok (.iconst 1, 1) := by decide +kernel
theorem dX12_isCornerWell_21 : decode cX12_isCornerWell 21 = .ok (.iand, 1) := by decide +kernel
theorem dX12_isCornerWell_22 : decode cX12_isCornerWell 22 = .ok (.iadd, 1) := by decide +kernel
theorem dX12_isCornerWell_23 : decode cX12_isCornerWell 23 = .ok (.iload_n 2, 1) := by decide +kernel
theorem dX12_isCornerWell_24 : decode cX12_isCornerWell 24 = .ok (.iload 4, 2) := by decide +kernel
theorem dX12_isCornerWell_26 : decode cX12_isCornerWell 26 = .ok (.iconst 1, 1) := by decide +kernel
theorem dX12_isCornerWell_27 : decode cX12_isCornerWell 27 = .ok (.ishr, 1) := by decide +kernel
theorem dX12_isCornerWell_28 : decode cX12_isCornerWell 28 = .ok (.iconst 1, 1) := by decide +kernel
theorem dX12_isCornerWell_29 : decode cX12_isCornerWell 29 = .ok (.iand, 1) := by decide +kernel
theorem dX12_isCornerWell_30 : decode cX12_isCornerWell 30 = .ok (.iadd, 1) := by decide +kernel
theorem dX12_isCornerWell_31 : decode cX12_isCornerWell 31 = .ok (.iload_n 3, 1) := by decide +kernel
theorem dX12_isCornerWell_32 : decode cX12_isCornerWell 32 = .ok (.iload 4, 2) := by decide +kernel
theorem dX12_isCornerWell_34 : decode cX12_isCornerWell 34 = .ok (.iconst 2, 1) := by decide +kernel
theorem dX12_isCornerWell_35 : decode cX12_isCornerWell 35 = .ok (.ishr, 1) := by decide +kernel
theorem dX12_isCornerWell_36 : decode cX12_isCornerWell 36 = .ok (.iadd, 1) := by decide +kernel
theorem dX12_isCornerWell_37 : decode cX12_isCornerWell 37 = .ok (.invokevirtual 150, 3) := by decide +kernel
theorem dX12_isCornerWell_40 : decode cX12_isCornerWell 40 = .ok (.iastore, 1) := by decide +kernel
theorem dX12_isCornerWell_41 : decode cX12_isCornerWell 41 = .ok (.iinc 4 1, 3) := by decide +kernel
theorem dX12_isCornerWell_44 : decode cX12_isCornerWell 44 = .ok (.goto (-41), 3) := by decide +kernel
theorem dX12_isCornerWell_47 : decode cX12_isCornerWell 47 = .ok (.aload_n 0, 1) := by decide +kernel
theorem dX12_isCornerWell_48 : decode cX12_isCornerWell 48 = .ok (.bipush 8, 2) := by decide +kernel
theorem dX12_isCornerWell_50 : decode cX12_isCornerWell 50 = .ok (.invokevirtual 164, 3) := by decide +kernel
theorem dX12_isCornerWell_53 : decode cX12_isCornerWell 53 = .ok (.ireturn, 1) := by decide +kernel
theorem dX12_isEdgeWell_0 : decode cX12_isEdgeWell 0 = .ok (.iconst 0, 1) := by decide +kernel
theorem dX12_isEdgeWell_1 : decode cX12_isEdgeWell 1 = .ok (.istore 5, 2) := by decide +kernel
theorem dX12_isEdgeWell_3 : decode cX12_isEdgeWell 3 = .ok (.iload 5, 2) := by decide +kernel
theorem dX12_isEdgeWell_5 : decode cX12_isEdgeWell 5 = .ok (.iconst 4, 1) := by decide +kernel
theorem dX12_isEdgeWell_6 : decode cX12_isEdgeWell 6 = .ok (.if_icmp .ge 84, 3) := by decide +kernel
theorem dX12_isEdgeWell_9 : decode cX12_isEdgeWell 9 = .ok (.iload 5, 2) := by decide +kernel
theorem dX12_isEdgeWell_11 : decode cX12_isEdgeWell 11 = .ok (.iconst 1, 1) := by decide +kernel
theorem dX12_isEdgeWell_12 : decode cX12_isEdgeWell 12 = .ok (.iand, 1) := by decide +kernel
theorem dX12_isEdgeWell_13 : decode cX12_isEdgeWell 13 = .ok (.istore 6, 2) := by decide +kernel
theorem dX12_isEdgeWell_15 : decode cX12_isEdgeWell 15 = .ok (.iload 5, 2) := by decide +kernel
theorem dX12_isEdgeWell_17 : decode cX12_isEdgeWell 17 = .ok (.iconst 1, 1) := by decide +kernel
theorem dX12_isEdgeWell_18 : decode cX12_isEdgeWell 18 = .ok (.ishr, 1) := by decide +kernel
theorem dX12_isEdgeWell_19 : decode cX12_isEdgeWell 19 = .ok (.istore 7, 2) := by decide +kernel
theorem dX12_isEdgeWell_21 : decode cX12_isEdgeWell 21 = .ok (.aload_n 0, 1) := by decide +kernel
theorem dX12_isEdgeWell_22 : decode cX12_isEdgeWell 22 = .ok (.getfield 43, 3) := by decide +kernel
theorem dX12_isEdgeWell_25 : decode cX12_isEdgeWell 25 = .ok (.iload 5, 2) := by decide +kernel
theorem dX12_isEdgeWell_27 : decode cX12_isEdgeWell 27 = .ok (.iload 4, 2) := by decide +kernel
theorem dX12_isEdgeWell_29 : decode cX12_isEdgeWell 29 = .ok (.ifCond .ne 19, 3) := by decide +kernel
theorem dX12_isEdgeWell_32 : decode cX12_isEdgeWell 32 = .ok (.aload_n 0, 1) := by decide +kernel
theorem dX12_isEdgeWell_33 : decode cX12_isEdgeWell 33 = .ok (.iload_n 1, 1) := by decide +kernel
theorem dX12_isEdgeWell_34 : decode cX12_isEdgeWell 34 = .ok (.iload_n 2, 1) := by decide +kernel
theorem dX12_isEdgeWell_35 : decode cX12_isEdgeWell 35 = .ok (.iload 6, 2) := by decide +kernel
theorem dX12_isEdgeWell_37 : decode cX12_isEdgeWell 37 = .ok (.iadd, 1) := by decide +kernel
theorem dX12_isEdgeWell_38 : decode cX12_isEdgeWell 38 = .ok (.iload_n 3, 1) := by decide +kernel
theorem dX12_isEdgeWell_39 : decode cX12_isEdgeWell 39 = .ok (.iload 7, 2) := by decide +kernel
theorem dX12_isEdgeWell_41 : decode cX12_isEdgeWell 41 = .ok (.iadd, 1) := by decide +kernel
theorem dX12_isEdgeWell_42 : decode cX12_isEdgeWell 42 = .ok (.invokevirtual 150, 3) := by decide +kernel
theorem dX12_isEdgeWell_45 : decode cX12_isEdgeWell 45 = .ok (.goto 38, 3) := by decide +kernel
theorem dX12_isEdgeWell_48 : decode cX12_isEdgeWell 48 = .ok (.iload 4, 2) := by decide +kernel
theorem dX12_isEdgeWell_50 : decode cX12_isEdgeWell 50 = .ok (.iconst 1, 1) := by decide +kernel
theorem dX12_isEdgeWell_51 : decode cX12_isEdgeWell 51 = .ok (.if_icmp .ne 19, 3) := by decide +kernel
theorem dX12_isEdgeWell_54 : decode cX12_isEdgeWell 54 = .ok (.aload_n 0, 1) := by decide +kernel
theorem dX12_isEdgeWell_55 : decode cX12_isEdgeWell 55 = .ok (.iload_n 1, 1) := by decide +kernel
theorem dX12_isEdgeWell_56 : decode cX12_isEdgeWell 56 = .ok (.iload 6, 2) := by decide +kernel
theorem dX12_isEdgeWell_58 : decode cX12_isEdgeWell 58 = .ok (.iadd, 1) := by decide +kernel
theorem dX12_isEdgeWell_59 : decode cX12_isEdgeWell 59 = .ok (.iload_n 2, 1) := by decide +kernel
theorem dX12_isEdgeWell_60 : decode cX12_isEdgeWell 60 = .ok (.iload_n 3, 1) := by decide +kernel
theorem dX12_isEdgeWell_61 : decode cX12_isEdgeWell 61 = .ok (.iload 7, 2) := by decide +kernel
theorem dX12_isEdgeWell_63 : decode cX12_isEdgeWell 63 = .ok (.iadd, 1) := by decide +kernel
theorem dX12_isEdgeWell_64 : decode cX12_isEdgeWell 64 = .ok (.invokevirtual 150, 3) := by decide +kernel
theorem dX12_isEdgeWell_67 : decode cX12_isEdgeWell 67 = .ok (.goto 16, 3) := by decide +kernel
theorem dX12_isEdgeWell_70 : decode cX12_isEdgeWell 70 = .ok (.aload_n 0, 1) := by decide +kernel
theorem dX12_isEdgeWell_71 : decode cX12_isEdgeWell 71 = .ok (.iload_n 1, 1) := by decide +kernel
theorem dX12_isEdgeWell_72 : decode cX12_isEdgeWell 72 = .ok (.iload 6, 2) := by decide +kernel
theorem dX12_isEdgeWell_74 : decode cX12_isEdgeWell 74 = .ok (.iadd, 1) := by decide +kernel
theorem dX12_isEdgeWell_75 : decode cX12_isEdgeWell 75 = .ok (.iload_n 2, 1) := by decide +kernel
theorem dX12_isEdgeWell_76 : decode cX12_isEdgeWell 76 = .ok (.iload 7, 2) := by decide +kernel
theorem dX12_isEdgeWell_78 : decode cX12_isEdgeWell 78 = .ok (.iadd, 1) := by decide +kernel
theorem dX12_isEdgeWell_79 : decode cX12_isEdgeWell 79 = .ok (.iload_n 3, 1) := by decide +kernel
theorem dX12_isEdgeWell_80 : decode cX12_isEdgeWell 80 = .ok (.invokevirtual 150, 3) := by decide +kernel
theorem dX12_isEdgeWell_83 : decode cX12_isEdgeWell 83 = .ok (.iastore, 1) := by decide +kernel
theorem dX12_isEdgeWell_84 : decode cX12_isEdgeWell 84 = .ok (.iinc 5 1, 3) := by decide +kernel
theorem dX12_isEdgeWell_87 : decode cX12_isEdgeWell 87 = .ok (.goto (-84), 3) := by decide +kernel
theorem dX12_isEdgeWell_90 : decode cX12_isEdgeWell 90 = .ok (.aload_n 0, 1) := by decide +kernel
theorem dX12_isEdgeWell_91 : decode cX12_isEdgeWell 91 = .ok (.iconst 4, 1) := by decide +kernel
theorem dX12_isEdgeWell_92 : decode cX12_isEdgeWell 92 = .ok (.invokevirtual 164, 3) := by decide +kernel
theorem dX12_isEdgeWell_95 : decode cX12_isEdgeWell 95 = .ok (.ireturn, 1) := by decide +kernel
theorem dX12_isJoinedWell_0 : decode cX12_isJoinedWell 0 = .ok (.iconst 1, 1) := by decide +kernel
theorem dX12_isJoinedWell_1 : decode cX12_isJoinedWell 1 = .ok (.istore_n 1, 1) := by decide +kernel
theorem dX12_isJoinedWell_2 : decode cX12_isJoinedWell 2 = .ok (.iconst (-1), 1) := by decide +kernel
theorem dX12_isJoinedWell_3 : decode cX12_isJoinedWell 3 = .ok (.istore_n 2, 1) := by decide +kernel
theorem dX12_isJoinedWell_4 : decode cX12_isJoinedWell 4 = .ok (.iload_n 2, 1) := by decide +kernel
theorem dX12_isJoinedWell_5 : decode cX12_isJoinedWell 5 = .ok (.iconst 4, 1) := by decide +kernel
theorem dX12_isJoinedWell_6 : decode cX12_isJoinedWell 6 = .ok (.if_icmp .ge 94, 3) := by decide +kernel
theorem dX12_isJoinedWell_9 : decode cX12_isJoinedWell 9 = .ok (.iconst (-1), 1) := by decide +kernel
theorem dX12_isJoinedWell_10 : decode cX12_isJoinedWell 10 = .ok (.istore_n 3, 1) := by decide +kernel
theorem dX12_isJoinedWell_11 : decode cX12_isJoinedWell 11 = .ok (.iload_n 3, 1) := by decide +kernel
theorem dX12_isJoinedWell_12 : decode cX12_isJoinedWell 12 = .ok (.iconst 4, 1) := by decide +kernel
theorem dX12_isJoinedWell_13 : decode cX12_isJoinedWell 13 = .ok (.if_icmp .ge 81, 3) := by decide +kernel
theorem dX12_isJoinedWell_16 : decode cX12_isJoinedWell 16 = .ok (.iconst (-1), 1) := by decide +kernel
theorem dX12_isJoinedWell_17 : decode cX12_isJoinedWell 17 = .ok (.istore 4, 2) := by decide +kernel
theorem dX12_isJoinedWell_19 : decode cX12_isJoinedWell 19 = .ok (.iload 4, 2) := by decide +kernel
theorem dX12_isJoinedWell_21 : decode cX12_isJoinedWell 21 = .ok (.iconst 4, 1) := by decide +kernel
theorem dX12_isJoinedWell_22 : decode cX12_isJoinedWell 22 = .ok (.if_icmp .ge 66, 3) := by decide +kernel
theorem dX12_isJoinedWell_25 : decode cX12_isJoinedWell 25 = .ok (.iload_n 1, 1) := by decide +kernel
theorem dX12_isJoinedWell_26 : decode cX12_isJoinedWell 26 = .ok (.ifCond .eq 54, 3) := by decide +kernel
theorem dX12_isJoinedWell_29 : decode cX12_isJoinedWell 29 = .ok (.aload_n 0, 1) := by decide +kernel
theorem dX12_isJoinedWell_30 : decode cX12_isJoinedWell 30 = .ok (.iload_n 2, 1) := by decide +kernel
theorem dX12_isJoinedWell_31 : decode cX12_isJoinedWell 31 = .ok (.iload_n 3, 1) := by decide +kernel
theorem dX12_isJoinedWell_32 : decode cX12_isJoinedWell 32 = .ok (.iload 4, 2) := by decide +kernel
theorem dX12_isJoinedWell_34 : decode cX12_isJoinedWell 34 = .ok (.invokevirtual 168, 3) := by decide +kernel
theorem dX12_isJoinedWell_37 : decode cX12_isJoinedWell 37 = .ok (.ifCond .eq 43, 3) := by decide +kernel
theorem dX12_isJoinedWell_40 : decode cX12_isJoinedWell 40 = .ok (.aload_n 0, 1) := by decide +kernel
theorem dX12_isJoinedWell_41 : decode cX12_isJoinedWell 41 = .ok (.iload_n 2, 1) := by decide +kernel
theorem dX12_isJoinedWell_42 : decode cX12_isJoinedWell 42 = .ok (.iload_n 3, 1) := by decide +kernel
theorem dX12_isJoinedWell_43 : decode cX12_isJoinedWell 43 = .ok (.iload 4, 2) := by decide +kernel
theorem dX12_isJoinedWell_45 : decode cX12_isJoinedWell 45 = .ok (.iconst 0, 1) := by decide +kernel
theorem dX12_isJoinedWell_46 : decode cX12_isJoinedWell 46 = .ok (.invokevirtual 171, 3) := by decide +kernel
theorem dX12_isJoinedWell_49 : decode cX12_isJoinedWell 49 = .ok (.ifCond .eq 31, 3) := by decide +kernel
theorem dX12_isJoinedWell_52 : decode cX12_isJoinedWell 52 = .ok (.aload_n 0, 1) := by decide +kernel
theorem dX12_isJoinedWell_53 : decode cX12_isJoinedWell 53 = .ok (.iload_n 2, 1) := by decide +kernel
theorem dX12_isJoinedWell_54 : decode cX12_isJoinedWell 54 = .ok (.iload_n 3, 1) := by decide +kernel
theorem dX12_isJoinedWell_55 : decode cX12_isJoinedWell 55 = .ok (.iload 4, 2) := by decide +kernel
theorem dX12_isJoinedWell_57 : decode cX12_isJoinedWell 57 = .ok (.iconst 1, 1) := by decide +kernel
theorem dX12_isJoinedWell_58 : decode cX12_isJoinedWell 58 = .ok (.invokevirtual 171, 3) := by decide +kernel
theorem dX12_isJoinedWell_61 : decode cX12_isJoinedWell 61 = .ok (.ifCond .eq 19, 3) := by decide +kernel
theorem dX12_isJoinedWell_64 : decode cX12_isJoinedWell 64 = .ok (.aload_n 0, 1) := by decide +kernel
theorem dX12_isJoinedWell_65 : decode cX12_isJoinedWell 65 = .ok (.iload_n 2, 1) := by decide +kernel
theorem dX12_isJoinedWell_66 : decode cX12_isJoinedWell 66 = .ok (.iload_n 3, 1) := by decide +kernel
theorem dX12_isJoinedWell_67 : decode cX12_isJoinedWell 67 = .ok (.iload 4, 2) := by decide +kernel
theorem dX12_isJoinedWell_69 : decode cX12_isJoinedWell 69 = .ok (.iconst 2, 1) := by decide +kernel
theorem dX12_isJoinedWell_70 : decode cX12_isJoinedWell 70 = .ok (.invokevirtual 171, 3) := by decide +kernel
theorem dX12_isJoinedWell_73 : decode cX12_isJoinedWell 73 = .ok (.ifCond .eq 7, 3) := by decide +kernel
theorem dX12_isJoinedWell_76 : decode cX12_isJoinedWell 76 = .ok (.iconst 1, 1) := by decide +kernel
theorem dX12_isJoinedWell_77 : decode cX12_isJoinedWell 77 = .ok (.goto 4, 3) := by decide +kernel
theorem dX12_isJoinedWell_80 : decode cX12_isJoinedWell 80 = .ok (.iconst 0, 1) := by decide +kernel
theorem dX12_isJoinedWell_81 : decode cX12_isJoinedWell 81 = .ok (.istore_n 1, 1) := by decide +kernel
theorem dX12_isJoinedWell_82 : decode cX12_isJoinedWell 82 = .ok (.iinc 4 1, 3) := by decide +kernel
theorem dX12_isJoinedWell_85 : decode cX12_isJoinedWell 85 = .ok (.goto (-66), 3) := by decide +kernel
theorem dX12_isJoinedWell_88 : decode cX12_isJoinedWell 88 = .ok (.iinc 3 1, 3) := by decide +kernel
theorem dX12_isJoinedWell_91 : decode cX12_isJoinedWell 91 = .ok (.goto (-80), 3) := by decide +kernel
theorem dX12_isJoinedWell_94 : decode cX12_isJoinedWell 94 = .ok (.iinc 2 1, 3) := by decide +kernel
theorem dX12_isJoinedWell_97 : decode cX12_isJoinedWell 97 = .ok (.goto (-93), 3) := by decide +kernel
theorem dX12_isJoinedWell_100 : decode cX12_isJoinedWell 100 = .ok (.iload_n 1, 1) := by decide +kernel
theorem dX12_isJoinedWell_101 : decode cX12_isJoinedWell 101 = .ok (.ireturn, 1) := by decide +kernel
theorem dX12_wellOf_0 : decode cX12_wellOf 0 = .ok (.iconst 0, 1) := by decide +kernel
theorem dX12_wellOf_1 : decode cX12_wellOf 1 = .ok (.istore_n 1, 1) := by decide +kernel
theorem dX12_wellOf_2 : decode cX12_wellOf 2 = .ok (.iconst 0, 1) := by decide +kernel
theorem dX12_wellOf_3 : decode cX12_wellOf 3 = .ok (.istore_n 2, 1) := by decide +kernel
theorem dX12_wellOf_4 : decode cX12_wellOf 4 = .ok (.iload_n 2, 1) := by decide +kernel
theorem dX12_wellOf_5 : decode cX12_wellOf 5 = .ok (.bipush 64, 2) := by decide +kernel
theorem dX12_wellOf_7 : decode cX12_wellOf 7 = .ok (.if_icmp .ge 18, 3) := by decide +kernel
theorem dX12_wellOf_10 : decode cX12_wellOf 10 = .ok (.iload_n 1, 1) := by decide +kernel
theorem dX12_wellOf_11 : decode cX12_wellOf 11 = .ok (.aload_n 0, 1) := by decide +kernel
theorem dX12_wellOf_12 : decode cX12_wellOf 12 = .ok (.getfield 13, 3) := by decide +kernel
theorem dX12_wellOf_15 : decode cX12_wellOf 15 = .ok (.iload_n 2, 1) := by decide +kernel
theorem dX12_wellOf_16 : decode cX12_wellOf 16 = .ok (.iaload, 1) := by decide +kernel
theorem dX12_wellOf_17 : decode cX12_wellOf 17 = .ok (.iadd, 1) := by decide +kernel
theorem dX12_wellOf_18 : decode cX12_wellOf 18 = .ok (.istore_n 1, 1) := by decide +kernel
theorem dX12_wellOf_19 : decode cX12_wellOf 19 = .ok (.iinc 2 1, 3) := by decide +kernel
theorem dX12_wellOf_22 : decode cX12_wellOf 22 = .ok (.goto (-18), 3) := by decide +kernel
theorem dX12_wellOf_25 : decode cX12_wellOf 25 = .ok (.iload_n 1, 1) := by decide +kernel
theorem dX12_wellOf_26 : decode cX12_wellOf 26 = .ok (.ifCond .ne 7, 3) := by decide +kernel
theorem dX12_wellOf_29 : decode cX12_wellOf 29 = .ok (.iconst 1, 1) := by decide +kernel
theorem dX12_wellOf_30 : decode cX12_wellOf 30 = .ok (.goto 39, 3) := by decide +kernel
theorem dX12_wellOf_33 : decode cX12_wellOf 33 = .ok (.aload_n 0, 1) := by decide +kernel
theorem dX12_wellOf_34 : decode cX12_wellOf 34 = .ok (.iconst 1, 1) := by decide +kernel
theorem dX12_wellOf_35 : decode cX12_wellOf 35 = .ok (.invokevirtual 175, 3) := by decide +kernel
theorem dX12_wellOf_38 : decode cX12_wellOf 38 = .ok (.ifCond .ne 7, 3) := by decide +kernel
theorem dX12_wellOf_41 : decode cX12_wellOf 41 = .ok (.iconst 2, 1) := by decide +kernel
theorem dX12_wellOf_42 : decode cX12_wellOf 42 = .ok (.goto 27, 3) := by decide +kernel
theorem dX12_wellOf_45 : decode cX12_wellOf 45 = .ok (.aload_n 0, 1) := by decide +kernel
theorem dX12_wellOf_46 : decode cX12_wellOf 46 = .ok (.invokevirtual 178, 3) := by decide +kernel
theorem dX12_wellOf_49 : decode cX12_wellOf 49 = .ok (.ifCond .ne 7, 3) := by decide +kernel
theorem dX12_wellOf_52 : decode cX12_wellOf 52 = .ok (.iconst 3, 1) := by decide +kernel
theorem dX12_wellOf_53 : decode cX12_wellOf 53 = .ok (.goto 16, 3) := by decide +kernel
theorem dX12_wellOf_56 : decode cX12_wellOf 56 = .ok (.aload_n 0, 1) := by decide +kernel
theorem dX12_wellOf_57 : decode cX12_wellOf 57 = .ok (.iconst 0, 1) := by decide +kernel
theorem dX12_wellOf_58 : decode cX12_wellOf 58 = .ok (.invokevirtual 175, 3) := by decide +kernel
theorem dX12_wellOf_61 : decode cX12_wellOf 61 = .ok (.ifCond .ne 7, 3) := by decide +kernel
theorem dX12_wellOf_64 : decode cX12_wellOf 64 = .ok (.iconst 4, 1) := by decide +kernel
theorem dX12_wellOf_65 : decode cX12_wellOf 65 = .ok (.goto 4, 3) := by decide +kernel
theorem dX12_wellOf_68 : decode cX12_wellOf 68 = .ok (.iconst 0, 1) := by decide +kernel
theorem dX12_wellOf_69 : decode cX12_wellOf 69 = .ok (.ireturn, 1) := by decide +kernel
theorem dX12_well_0 : decode cX12_well 0 = .ok (.aload_n 0, 1) := by decide +kernel
theorem dX12_well_1 : decode cX12_well 1 = .ok (.iconst 0, 1) := by decide +kernel
theorem dX12_well_2 : decode cX12_well 2 = .ok (.putfield 113, 3) := by decide +kernel
theorem dX12_well_5 : decode cX12_well 5 = .ok (.aload_n 0, 1) := by decide +kernel
theorem dX12_well_6 : decode cX12_well 6 = .ok (.invokevirtual 182, 3) := by decide +kernel
theorem dX12_well_9 : decode cX12_well 9 = .ok (.ireturn, 1) := by decide +kernel
theorem dX12_xOf_0 : decode cX12_xOf 0 = .ok (.iload_n 0, 1) := by decide +kernel
theorem dX12_xOf_1 : decode cX12_xOf 1 = .ok (.iconst 4, 1) := by decide +kernel
theorem dX12_xOf_2 : decode cX12_xOf 2 = .ok (.irem, 1) := by decide +kernel
theorem dX12_xOf_3 : decode cX12_xOf 3 = .ok (.ireturn, 1) := by decide +kernel
theorem dX12_yOf_0 : decode cX12_yOf 0 = .ok (.iload_n 0, 1) := by decide +kernel
theorem dX12_yOf_1 : decode cX12_yOf 1 = .ok (.iconst 4, 1) := by decide +kernel
theorem dX12_yOf_2 : decode cX12_yOf 2 = .ok (.idiv, 1) := by decide +kernel
theorem dX12_yOf_3 : decode cX12_yOf 3 = .ok (.iconst 4, 1) := by decide +kernel
theorem dX12_yOf_4 : decode cX12_yOf 4 = .ok (.irem, 1) := by decide +kernel
theorem dX12_yOf_5 : decode cX12_yOf 5 = .ok (.ireturn, 1) := by decide +kernel
theorem dX12_zOf_0 : decode cX12_zOf 0 = .ok (.iload_n 0, 1) := by decide +kernel
theorem dX12_zOf_1 : decode cX12_zOf 1 = .ok (.bipush 16, 2) := by decide +kernel
theorem dX12_zOf_3 : decode cX12_zOf 3 = .ok (.idiv, 1) := by decide +kernel
theorem dX12_zOf_4 : decode cX12_zOf 4 = .ok (.ireturn, 1) := by decide +kernel
theorem dX12_isCube_0 : decode cX12_isCube 0 = .ok (.iload_n 1, 1) := by decide +kernel
theorem dX12_isCube_1 : decode cX12_isCube 1 = .ok (.invokestatic 186, 3) := by decide +kernel
theorem dX12_isCube_4 : decode cX12_isCube 4 = .ok (.iload_n 2, 1) := by decide +kernel
theorem dX12_isCube_5 : decode cX12_isCube 5 = .ok (.iconst 0, 1) := by decide +kernel
theorem dX12_isCube_6 : decode cX12_isCube 6 = .ok (.invokestatic 154, 3) := by decide +kernel
theorem dX12_isCube_9 : decode cX12_isCube 9 = .ok (.iadd, 1) := by decide +kernel
theorem dX12_isCube_10 : decode cX12_isCube 10 = .ok (.iload_n 3, 1) := by decide +kernel
theorem dX12_isCube_11 : decode cX12_isCube 11 = .ok (.iconst (-1), 1) := by decide +kernel
theorem dX12_isCube_12 : decode cX12_isCube 12 = .ok (.if_icmp .ne 7, 3) := by decide +kernel
theorem dX12_isCube_15 : decode cX12_isCube 15 = .ok (.iconst 0, 1) := by decide +kernel
theorem dX12_isCube_16 : decode cX12_isCube 16 = .ok (.goto 8, 3) := by decide +kernel
theorem dX12_isCube_19 : decode cX12_isCube 19 = .ok (.iload_n 3, 1) := by decide +kernel
theorem dX12_isCube_20 : decode cX12_isCube 20 = .ok (.iconst 0, 1) := by decide +kernel
theorem dX12_isCube_21 : decode cX12_isCube 21 = .ok (.invokestatic 154, 3) := by decide +kernel
theorem dX12_isCube_24 : decode cX12_isCube 24 = .ok (.iadd, 1) := by decide +kernel
theorem dX12_isCube_25 : decode cX12_isCube 25 = .ok (.istore 4, 2) := by decide +kernel
theorem dX12_isCube_27 : decode cX12_isCube 27 = .ok (.iload_n 1, 1) := by decide +kernel
theorem dX12_isCube_28 : decode cX12_isCube 28 = .ok (.invokestatic 189, 3) := by decide +kernel
theorem dX12_isCube_31 : decode cX12_isCube 31 = .ok (.iload_n 2, 1) := by decide +kernel
theorem dX12_isCube_32 : decode cX12_isCube 32 = .ok (.iconst 1, 1) := by decide +kernel
theorem dX12_isCube_33 : decode cX12_isCube 33 = .ok (.invokestatic 154, 3) := by decide +kernel
theorem dX12_isCube_36 : decode cX12_isCube 36 = .ok (.iadd, 1) := by decide +kernel
theorem dX12_isCube_37 : decode cX12_isCube 37 = .ok (.iload_n 3, 1) := by decide +kernel
theorem dX12_isCube_38 : decode cX12_isCube 38 = .ok (.iconst (-1), 1) := by decide +kernel
theorem dX12_isCube_39 : decode cX12_isCube 39 = .ok (.if_icmp .ne 7, 3) := by decide +kernel
theorem dX12_isCube_42 : decode cX12_isCube 42 = .ok (.iconst 0, 1) := by decide +kernel
theorem dX12_isCube_43 : decode cX12_isCube 43 = .ok (.goto 8, 3) := by decide +kernel
theorem dX12_isCube_46 : decode cX12_isCube 46 = .ok (.iload_n 3, 1) := by decide +kernel
theorem dX12_isCube_47 : decode cX12_isCube 47 = .ok (.iconst 1, 1) := by decide +kernel
theorem dX12_isCube_48 : decode cX12_isCube 48 = .ok (.invokestatic 154, 3) := by decide +kernel
theorem dX12_isCube_51 : decode cX12_isCube 51 = .ok (.iadd, 1) := by decide +kernel
theorem dX12_isCube_52 : decode cX12_isCube 52 = .ok (.istore 5, 2) := by decide +kernel
theorem dX12_isCube_54 : decode cX12_isCube 54 = .ok (.iload_n 1, 1) := by decide +kernel
theorem dX12_isCube_55 : decode cX12_isCube 55 = .ok (.invokestatic 192, 3) := by decide +kernel
theorem dX12_isCube_58 : decode cX12_isCube 58 = .ok (.iload_n 2, 1) := by decide +kernel
theorem dX12_isCube_59 : decode cX12_isCube 59 = .ok (.iconst 2, 1) := by decide +kernel
theorem dX12_isCube_60 : decode cX12_isCube 60 = .ok (.invokestatic 154, 3) := by decide +kernel
theorem dX12_isCube_63 : decode cX12_isCube 63 = .ok (.iadd, 1) := by decide +kernel
theorem dX12_isCube_64 : decode cX12_isCube 64 = .ok (.iload_n 3, 1) := by decide +kernel
theorem dX12_isCube_65 : decode cX12_isCube 65 = .ok (.iconst (-1), 1) := by decide +kernel
theorem dX12_isCube_66 : decode cX12_isCube 66 = .ok (.if_icmp .ne 7, 3) := by decide +kernel
theorem dX12_isCube_69 : decode cX12_isCube 69 = .ok (.iconst 0, 1) := by decide +kernel
theorem dX12_isCube_70 : decode cX12_isCube 70 = .ok (.goto 8, 3) := by decide +kernel
theorem dX12_isCube_73 : decode cX12_isCube 73 = .ok (.iload_n 3, 1) := by decide +kernel
theorem dX12_isCube_74 : decode cX12_isCube 74 = .ok (.iconst 2, 1) := by decide +kernel
theorem dX12_isCube_75 : decode cX12_isCube 75 = .ok (.invokestatic 154, 3) := by decide +kernel
theorem dX12_isCube_78 : decode cX12_isCube 78 = .ok (.iadd, 1) := by decide +kernel
theorem dX12_isCube_79 : decode cX12_isCube 79 = .ok (.istore 6, 2) := by decide +kernel
theorem dX12_isCube_81 : decode cX12_isCube 81 = .ok (.aload_n 0, 1) := by decide +kernel
theorem dX12_isCube_82 : decode cX12_isCube 82 = .ok (.iload 4, 2) := by decide +kernel
theorem dX12_isCube_84 : decode cX12_isCube 84 = .ok (.iload 5, 2) := by decide +kernel
theorem dX12_isCube_86 : decode cX12_isCube 86 = .ok (.iload 6, 2) := by decide +kernel
theorem dX12_isCube_88 : decode cX12_isCube 88 = .ok (.invokevirtual 150, 3) := by decide +kernel
theorem dX12_isCube_91 : decode cX12_isCube 91 = .ok (.iconst 1, 1) := by decide +kernel
theorem dX12_isCube_92 : decode cX12_isCube 92 = .ok (.if_icmp .ne 7, 3) := by decide +kernel
theorem dX12_isCube_95 : decode cX12_isCube 95 = .ok (.iconst 1, 1) := by decide +kernel
theorem dX12_isCube_96 : decode cX12_isCube 96 = .ok (.goto 4, 3) := by decide +kernel
theorem dX12_isCube_99 : decode cX12_isCube 99 = .ok (.iconst 0, 1) := by decide +kernel
theorem dX12_isCube_100 : decode cX12_isCube 100 = .ok (.ireturn, 1) := by decide +kernel
theorem dX12_cubeBy_0 : decode cX12_cubeBy 0 = .ok (.iload_n 0, 1) := by decide +kernel
theorem dX12_cubeBy_1 : decode cX12_cubeBy 1 = .ok (.iload_n 1, 1) := by decide +kernel
theorem dX12_cubeBy_2 : decode cX12_cubeBy 2 = .ok (.iconst 0, 1) := by decide +kernel
theorem dX12_cubeBy_3 : decode cX12_cubeBy 3 = .ok (.invokestatic 154, 3) := by decide +kernel
theorem dX12_cubeBy_6 : decode cX12_cubeBy 6 = .ok (.iadd, 1) := by decide +kernel
theorem dX12_cubeBy_7 : decode cX12_cubeBy 7 = .ok (.iconst 4, 1) := by decide +kernel
theorem dX12_cubeBy_8 : decode cX12_cubeBy 8 = .ok (.iload_n 1, 1) := by decide +kernel
theorem dX12_cubeBy_9 : decode cX12_cubeBy 9 = .ok (.iconst 1, 1) := by decide +kernel
theorem dX12_cubeBy_10 : decode cX12_cubeBy 10 = .ok (.invokestatic 154, 3) := by decide +kernel
theorem dX12_cubeBy_13 : decode cX12_cubeBy 13 = .ok (.imul, 1) := by decide +kernel
theorem dX12_cubeBy_14 : decode cX12_cubeBy 14 = .ok (.iadd, 1) := by decide +kernel
theorem dX12_cubeBy_15 : decode cX12_cubeBy 15 = .ok (.bipush 16, 2) := by decide +kernel
theorem dX12_cubeBy_17 : decode cX12_cubeBy 17 = .ok (.iload_n 1, 1) := by decide +kernel
theorem dX12_cubeBy_18 : decode cX12_cubeBy 18 = .ok (.iconst 2, 1) := by decide +kernel
theorem dX12_cubeBy_19 : decode cX12_cubeBy 19 = .ok (.invokestatic 154, 3) := by decide +kernel
theorem dX12_cubeBy_22 : decode cX12_cubeBy 22 = .ok (.imul, 1) := by decide +kernel
theorem dX12_cubeBy_23 : decode cX12_cubeBy 23 = .ok (.iadd, 1) := by decide +kernel
theorem dX12_cubeBy_24 : decode cX12_cubeBy 24 = .ok (.ireturn, 1) := by decide +kernel
theorem dX12_findSkin_0 : decode cX12_findSkin 0 = .ok (.aload_n 0, 1) := by decide +kernel
theorem dX12_findSkin_1 : decode cX12_findSkin 1 = .ok (.iconst 0, 1) := by decide +kernel
theorem dX12_findSkin_2 : decode cX12_findSkin 2 = .ok (.putfield 195, 3) := by decide +kernel
theorem dX12_findSkin_5 : decode cX12_findSkin 5 = .ok (.iconst 0, 1) := by decide +kernel
theorem dX12_findSkin_6 : decode cX12_findSkin 6 = .ok (.istore_n 1, 1) := by decide +kernel
theorem dX12_findSkin_7 : decode cX12_findSkin 7 = .ok (.iload_n 1, 1) := by decide +kernel
theorem dX12_findSkin_8 : decode cX12_findSkin 8 = .ok (.bipush 64, 2) := by decide +kernel
theorem dX12_findSkin_10 : decode cX12_findSkin 10 = .ok (.if_icmp .ge 88, 3) := by decide +kernel
theorem dX12_findSkin_13 : decode cX12_findSkin 13 = .ok (.iconst 0, 1) := by decide +kernel
theorem dX12_findSkin_14 : decode cX12_findSkin 14 = .ok (.istore_n 2, 1) := by decide +kernel
theorem dX12_findSkin_15 : decode cX12_findSkin 15 = .ok (.iload_n 2, 1) := by decide +kernel
theorem dX12_findSkin_16 : decode cX12_findSkin 16 = .ok (.bipush 6, 2) := by decide +kernel
theorem dX12_findSkin_18 : decode cX12_findSkin 18 = .ok (.if_icmp .ge 74, 3) := by decide +kernel
theorem dX12_findSkin_21 : decode cX12_findSkin 21 = .ok (.aload_n 0, 1) := by decide +kernel
theorem dX12_findSkin_22 : decode cX12_findSkin 22 = .ok (.getfield 13, 3) := by decide +kernel
theorem dX12_findSkin_25 : decode cX12_findSkin 25 = .ok (.iload_n 1, 1) := by decide +kernel
theorem dX12_findSkin_26 : decode cX12_findSkin 26 = .ok (.iaload, 1) := by decide +kernel
theorem dX12_findSkin_27 : decode cX12_findSkin 27 = .ok (.iconst 1, 1) := by decide +kernel
theorem dX12_findSkin_28 : decode cX12_findSkin 28 = .ok (.if_icmp .ne 64, 3) := by decide +kernel
theorem dX12_findSkin_31 : decode cX12_findSkin 31 = .ok (.aload_n 0, 1) := by decide +kernel
theorem dX12_findSkin_32 : decode cX12_findSkin 32 = .ok (.iload_n 1, 1) := by decide +kernel
theorem dX12_findSkin_33 : decode cX12_findSkin 33 = .ok (.iload_n 2, 1) := by decide +kernel
theorem dX12_findSkin_34 : decode cX12_findSkin 34 = .ok (.iconst (-1), 1) := by decide +kernel
theorem dX12_findSkin_35 : decode cX12_findSkin 35 = .ok (.invokevirtual 198, 3) := by decide +kernel
theorem dX12_findSkin_38 : decode cX12_findSkin 38 = .ok (.ifCond .ne 48, 3) := by decide +kernel
theorem dX12_findSkin_41 : decode cX12_findSkin 41 = .ok (.aload_n 0, 1) := by decide +kernel
theorem dX12_findSkin_42 : decode cX12_findSkin 42 = .ok (.getfield 46, 3) := by decide +kernel
theorem dX12_findSkin_45 : decode cX12_findSkin 45 = .ok (.aload_n 0, 1) := by decide +kernel
theorem dX12_findSkin_46 : decode cX12_findSkin 46 = .ok (.getfield 195, 3) := by decide +kernel
theorem dX12_findSkin_49 : decode cX12_findSkin 49 = .ok (.iload_n 1, 1) := by decide +kernel
theorem dX12_findSkin_50 : decode cX12_findSkin 50 = .ok (.iastore, 1) := by decide +kernel
theorem dX12_findSkin_51 : decode cX12_findSkin 51 = .ok (.aload_n 0, 1) := by decide +kernel
theorem dX12_findSkin_52 : decode cX12_findSkin 52 = .ok (.getfield 49, 3) := by decide +kernel
theorem dX12_findSkin_55 : decode cX12_findSkin 55 = .ok (.aload_n 0, 1) := by decide +kernel
theorem dX12_findSkin_56 : decode cX12_findSkin 56 = .ok (.getfield 195, 3) := by decide +kernel
theorem dX12_findSkin_59 : decode cX12_findSkin 59 = .ok (.iload_n 2, 1) := by decide +kernel
theorem dX12_findSkin_60 : decode cX12_findSkin 60 = .ok (.iastore, 1) := by decide +kernel
theorem dX12_findSkin_61 : decode cX12_findSkin 61 = .ok (.aload_n 0, 1) := by decide +kernel
theorem dX12_findSkin_62 : decode cX12_findSkin 62 = .ok (.getfield 52, 3) := by decide +kernel
theorem dX12_findSkin_65 : decode cX12_findSkin 65 = .ok (.bipush 6, 2) := by decide +kernel
theorem dX12_findSkin_67 : decode cX12_findSkin 67 = .ok (.iload_n 1, 1) := by decide +kernel
theorem dX12_findSkin_68 : decode cX12_findSkin 68 = .ok (.imul, 1) := by decide +kernel
theorem dX12_findSkin_69 : decode cX12_findSkin 69 = .ok (.iload_n 2, 1) := by decide +kernel
theorem dX12_findSkin_70 : decode cX12_findSkin 70 = .ok (.iadd, 1) := by decide +kernel
theorem dX12_findSkin_71 : decode cX12_findSkin 71 = .ok (.aload_n 0, 1) := by decide +kernel
theorem dX12_findSkin_72 : decode cX12_findSkin 72 = .ok (.getfield 195, 3) := by decide +kernel
theorem dX12_findSkin_75 : decode cX12_findSkin 75 = .ok (.iastore, 1) := by decide +kernel
theorem dX12_findSkin_76 : decode cX12_findSkin 76 = .ok (.aload_n 0, 1) := by decide +kernel
theorem dX12_findSkin_77 : decode cX12_findSkin 77 = .ok (.dup, 1) := by decide +kernel
theorem dX12_findSkin_78 : decode cX12_findSkin 78 = .ok (.getfield 195, 3) := by decide +kernel
theorem dX12_findSkin_81 : decode cX12_findSkin 81 = .ok (.iconst 1, 1) := by decide +kernel
theorem dX12_findSkin_82 : decode cX12_findSkin 82 = .ok (.iadd, 1) := by decide +kernel
theorem dX12_findSkin_83 : decode cX12_findSkin 83 = .ok (.putfield 195, 3) := by decide +kernel
theorem dX12_findSkin_86 : decode cX12_findSkin 86 = .ok (.iinc 2 1, 3) := by decide +kernel
theorem dX12_findSkin_89 : decode cX12_findSkin 89 = .ok (.goto (-74), 3) := by decide +kernel
theorem dX12_findSkin_92 : decode cX12_findSkin 92 = .ok (.iinc 1 1, 3) := by decide +kernel
theorem dX12_findSkin_95 : decode cX12_findSkin 95 = .ok (.goto (-88), 3) := by decide +kernel
theorem dX12_findSkin_98 : decode cX12_findSkin 98 = .ok (.return_, 1) := by decide +kernel
theorem dX12_squareOf_0 : decode cX12_squareOf 0 = .ok (.aload_n 0, 1) := by decide +kernel
theorem dX12_squareOf_1 : decode cX12_squareOf 1 = .ok (.getfield 52, 3) := by decide +kernel
theorem dX12_squareOf_4 : decode cX12_squareOf 4 = .ok (.bipush 6, 2) := by decide +kernel
theorem dX12_squareOf_6 : decode cX12_squareOf 6 = .ok (.iload_n 1, 1) := by decide +kernel
theorem dX12_squareOf_7 : decode cX12_squareOf 7 = .ok (.imul, 1) := by decide +kernel
theorem dX12_squareOf_8 : decode cX12_squareOf 8 = .ok (.iload_n 2, 1) := by decide +kernel
theorem dX12_squareOf_9 : decode cX12_squareOf 9 = .ok (.iadd, 1) := by decide +kernel
theorem dX12_squareOf_10 : decode cX12_squareOf 10 = .ok (.iaload, 1) := by decide +kernel
theorem dX12_squareOf_11 : decode cX12_squareOf 11 = .ok (.ireturn, 1) := by decide +kernel
theorem dX12_looks_0 : decode cX12_looks 0 = .ok (.iconst 2, 1) := by decide +kernel
theorem dX12_looks_1 : decode cX12_looks 1 = .ok (.iload_n 0, 1) := by decide +kernel
theorem dX12_looks_2 : decode cX12_looks 2 = .ok (.iconst 2, 1) := by decide +kernel
theorem dX12_looks_3 : decode cX12_looks 3 = .ok (.idiv, 1) := by decide +kernel
theorem dX12_looks_4 : decode cX12_looks 4 = .ok (.iconst 1, 1) := by decide +kernel
theorem dX12_looks_5 : decode cX12_looks 5 = .ok (.iadd, 1) := by decide +kernel
theorem dX12_looks_6 : decode cX12_looks 6 = .ok (.iconst 3, 1) := by decide +kernel
theorem dX12_looks_7 : decode cX12_looks 7 = .ok (.irem, 1) := by decide +kernel
theorem dX12_looks_8 : decode cX12_looks 8 = .ok (.imul, 1) := by decide +kernel
theorem dX12_looks_9 : decode cX12_looks 9 = .ok (.istore_n 2, 1) := by decide +kernel
theorem dX12_looks_10 : decode cX12_looks 10 = .ok (.iconst 2, 1) := by decide +kernel
theorem dX12_looks_11 : decode cX12_looks 11 = .ok (.iload_n 0, 1) := by decide +kernel
theorem dX12_looks_12 : decode cX12_looks 12 = .ok (.iconst 2, 1) := by decide +kernel
theorem dX12_looks_13 : decode cX12_looks 13 = .ok (.idiv, 1) := by decide +kernel
theorem dX12_looks_14 : decode cX12_looks 14 = .ok (.iconst 2, 1) := by decide +kernel
theorem dX12_looks_15 : decode cX12_looks 15 = .ok (.iadd, 1) := by decide +kernel
theorem dX12_looks_16 : decode cX12_looks 16 = .ok (.iconst 3, 1) := by decide +kernel
theorem dX12_looks_17 : decode cX12_looks 17 = .ok (.irem, 1) := by decide +kernel
theorem dX12_looks_18 : decode cX12_looks 18 = .ok (.imul, 1) := by decide +kernel
theorem dX12_looks_19 : decode cX12_looks 19 = .ok (.istore_n 3, 1) := by decide +kernel
theorem dX12_looks_20 : decode cX12_looks 20 = .ok (.iload_n 0, 1) := by decide +kernel
theorem dX12_looks_21 : decode cX12_looks 21 = .ok (.iconst 2, 1) := by decide +kernel
theorem dX12_looks_22 : decode cX12_looks 22 = .ok (.irem, 1) := by decide +kernel
theorem dX12_looks_23 : decode cX12_looks 23 = .ok (.iconst 1, 1) := by decide +kernel
theorem dX12_looks_24 : decode cX12_looks 24 = .ok (.if_icmp .ne 7, 3) := by decide +kernel
theorem dX12_looks_27 : decode cX12_looks 27 = .ok (.iconst 1, 1) := by decide +kernel
theorem dX12_looks_28 : decode cX12_looks 28 = .ok (.goto 4, 3) := by decide +kernel
theorem dX12_looks_31 : decode cX12_looks 31 = .ok (.iconst 0, 1) := by decide +kernel
theorem dX12_looks_32 : decode cX12_looks 32 = .ok (.istore 4, 2) := by decide +kernel
theorem dX12_looks_34 : decode cX12_looks 34 = .ok (.iload_n 1, 1) := by decide +kernel
theorem dX12_looks_35 : decode cX12_looks 35 = .ok (.ifCond .ne 7, 3) := by decide +kernel
theorem dX12_looks_38 : decode cX12_looks 38 = .ok (.iload_n 2, 1) := by decide +kernel
theorem dX12_looks_39 : decode cX12_looks 39 = .ok (.goto 36, 3) := by decide +kernel
theorem dX12_looks_42 : decode cX12_looks 42 = .ok (.iload_n 1, 1) := by decide +kernel
theorem dX12_looks_43 : decode cX12_looks 43 = .ok (.iconst 2, 1) := by decide +kernel
theorem dX12_looks_44 : decode cX12_looks 44 = .ok (.if_icmp .ne 9, 3) := by decide +kernel
theorem dX12_looks_47 : decode cX12_looks 47 = .ok (.iload_n 2, 1) := by decide +kernel
theorem dX12_looks_48 : decode cX12_looks 48 = .ok (.iconst 1, 1) := by decide +kernel
theorem dX12_looks_49 : decode cX12_looks 49 = .ok (.iadd, 1) := by decide +kernel
theorem dX12_looks_50 : decode cX12_looks 50 = .ok (.goto 25, 3) := by decide +kernel
theorem dX12_looks_53 : decode cX12_looks 53 = .ok (.iload_n 1, 1) := by decide +kernel
theorem dX12_looks_54 : decode cX12_looks 54 = .ok (.iconst 1, 1) := by decide +kernel
theorem dX12_looks_55 : decode cX12_looks 55 = .ok (.if_icmp .ne 7, 3) := by decide +kernel
theorem dX12_looks_58 : decode cX12_looks 58 = .ok (.iconst 1, 1) := by decide +kernel
theorem dX12_looks_59 : decode cX12_looks 59 = .ok (.goto 4, 3) := by decide +kernel
theorem dX12_looks_62 : decode cX12_looks 62 = .ok (.iconst 0, 1) := by decide +kernel
theorem dX12_looks_63 : decode cX12_looks 63 = .ok (.iload 4, 2) := by decide +kernel
theorem dX12_looks_65 : decode cX12_looks 65 = .ok (.if_icmp .ne 9, 3) := by decide +kernel
theorem dX12_looks_68 : decode cX12_looks 68 = .ok (.iload_n 3, 1) := by decide +kernel
theorem dX12_looks_69 : decode cX12_looks 69 = .ok (.iconst 1, 1) := by decide +kernel
theorem dX12_looks_70 : decode cX12_looks 70 = .ok (.iadd, 1) := by decide +kernel
theorem dX12_looks_71 : decode cX12_looks 71 = .ok (.goto 4, 3) := by decide +kernel
theorem dX12_looks_74 : decode cX12_looks 74 = .ok (.iload_n 3, 1) := by decide +kernel
theorem dX12_looks_75 : decode cX12_looks 75 = .ok (.ireturn, 1) := by decide +kernel
theorem dX12_edgeAt_0 : decode cX12_edgeAt 0 = .ok (.iload_n 3, 1) := by decide +kernel
theorem dX12_edgeAt_1 : decode cX12_edgeAt 1 = .ok (.ifCond .ne 10, 3) := by decide +kernel
theorem dX12_edgeAt_4 : decode cX12_edgeAt 4 = .ok (.iload_n 0, 1) := by decide +kernel
theorem dX12_edgeAt_5 : decode cX12_edgeAt 5 = .ok (.invokestatic 186, 3) := by decide +kernel
theorem dX12_edgeAt_8 : decode cX12_edgeAt 8 = .ok (.goto 19, 3) := by decide +kernel
theorem dX12_edgeAt_11 : decode cX12_edgeAt 11 = .ok (.iload_n 3, 1) := by decide +kernel
theorem dX12_edgeAt_12 : decode cX12_edgeAt 12 = .ok (.iconst 1, 1) := by decide +kernel
theorem dX12_edgeAt_13 : decode cX12_edgeAt 13 = .ok (.if_icmp .ne 10, 3) := by decide +kernel
theorem dX12_edgeAt_16 : decode cX12_edgeAt 16 = .ok (.iload_n 0, 1) := by decide +kernel
theorem dX12_edgeAt_17 : decode cX12_edgeAt 17 = .ok (.invokestatic 189, 3) := by decide +kernel
theorem dX12_edgeAt_20 : decode cX12_edgeAt 20 = .ok (.goto 7, 3) := by decide +kernel
theorem dX12_edgeAt_23 : decode cX12_edgeAt 23 = .ok (.iload_n 0, 1) := by decide +kernel
theorem dX12_edgeAt_24 : decode cX12_edgeAt 24 = .ok (.invokestatic 192, 3) := by decide +kernel
theorem dX12_edgeAt_27 : decode cX12_edgeAt 27 = .ok (.istore 4, 2) := by decide +kernel
theorem dX12_edgeAt_29 : decode cX12_edgeAt 29 = .ok (.iconst 2, 1) := by decide +kernel
theorem dX12_edgeAt_30 : decode cX12_edgeAt 30 = .ok (.iload 4, 2) := by decide +kernel
theorem dX12_edgeAt_32 : decode cX12_edgeAt 32 = .ok (.imul, 1) := by decide +kernel
theorem dX12_edgeAt_33 : decode cX12_edgeAt 33 = .ok (.iload_n 1, 1) := by decide +kernel
theorem dX12_edgeAt_34 : decode cX12_edgeAt 34 = .ok (.iload_n 3, 1) := by decide +kernel
theorem dX12_edgeAt_35 : decode cX12_edgeAt 35 = .ok (.invokestatic 154, 3) := by decide +kernel
theorem dX12_edgeAt_38 : decode cX12_edgeAt 38 = .ok (.iadd, 1) := by decide +kernel
theorem dX12_edgeAt_39 : decode cX12_edgeAt 39 = .ok (.iload_n 1, 1) := by decide +kernel
theorem dX12_edgeAt_40 : decode cX12_edgeAt 40 = .ok (.iload_n 2, 1) := by decide +kernel
theorem dX12_edgeAt_41 : decode cX12_edgeAt 41 = .ok (.invokestatic 201, 3) := by decide +kernel
theorem dX12_edgeAt_44 : decode cX12_edgeAt 44 = .ok (.iload_n 3, 1) := by decide +kernel
theorem dX12_edgeAt_45 : decode cX12_edgeAt 45 = .ok (.invokestatic 154, 3) := by decide +kernel
theorem dX12_edgeAt_48 : decode cX12_edgeAt 48 = .ok (.iadd, 1) := by decide +kernel
theorem dX12_edgeAt_49 : decode cX12_edgeAt 49 = .ok (.ireturn, 1) := by decide +kernel
theorem dX12_findAcross_0 : decode cX12_findAcross 0 = .ok (.aload_n 0, 1) := by decide +kernel
theorem dX12_findAcross_1 : decode cX12_findAcross 1 = .ok (.getfield 46, 3) := by decide +kernel
theorem dX12_findAcross_4 : decode cX12_findAcross 4 = .ok (.iload_n 1, 1) := by decide +kernel
theorem dX12_findAcross_5 : decode cX12_findAcross 5 = .ok (.iaload, 1) := by decide +kernel
theorem dX12_findAcross_6 : decode cX12_findAcross 6 = .ok (.istore_n 3, 1) := by decide +kernel
theorem dX12_findAcross_7 : decode cX12_findAcross 7 = .ok (.aload_n 0, 1) := by decide +kernel
theorem dX12_findAcross_8 : decode cX12_findAcross 8 = .ok (.getfield 49, 3) := by decide +kernel
theorem dX12_findAcross_11 : decode cX12_findAcross 11 = .ok (.iload_n 1, 1) := by decide +kernel
theorem dX12_findAcross_12 : decode cX12_findAcross 12 = .ok (.iaload, 1) := by decide +kernel
theorem dX12_findAcross_13 : decode cX12_findAcross 13 = .ok (.istore 4, 2) := by decide +kernel
theorem dX12_findAcross_15 : decode cX12_findAcross 15 = .ok (.iload 4, 2) := by decide +kernel
theorem dX12_findAcross_17 : decode cX12_findAcross 17 = .ok (.iload_n 2, 1) := by decide +kernel
theorem dX12_findAcross_18 : decode cX12_findAcross 18 = .ok (.invokestatic 201, 3) := by decide +kernel
theorem dX12_findAcross_21 : decode cX12_findAcross 21 = .ok (.istore 5, 2) := by decide +kernel
theorem dX12_findAcross_23 : decode cX12_findAcross 23 = .ok (.iload_n 3, 1) := by decide +kernel
theorem dX12_findAcross_24 : decode cX12_findAcross 24 = .ok (.istore 6, 2) := by decide +kernel
theorem dX12_findAcross_26 : decode cX12_findAcross 26 = .ok (.iload 5, 2) := by decide +kernel
theorem dX12_findAcross_28 : decode cX12_findAcross 28 = .ok (.istore 7, 2) := by decide +kernel
theorem dX12_findAcross_30 : decode cX12_findAcross 30 = .ok (.aload_n 0, 1) := by decide +kernel
theorem dX12_findAcross_31 : decode cX12_findAcross 31 = .ok (.iconst 1, 1) := by decide +kernel
theorem dX12_findAcross_32 : decode cX12_findAcross 32 = .ok (.putfield 204, 3) := by decide +kernel
theorem dX12_findAcross_35 : decode cX12_findAcross 35 = .ok (.aload_n 0, 1) := by decide +kernel
theorem dX12_findAcross_36 : decode cX12_findAcross 36 = .ok (.iload_n 3, 1) := by decide +kernel
theorem dX12_findAcross_37 : decode cX12_findAcross 37 = .ok (.iload 5, 2) := by decide +kernel
theorem dX12_findAcross_39 : decode cX12_findAcross 39 = .ok (.iload 4, 2) := by decide +kernel
theorem dX12_findAcross_41 : decode cX12_findAcross 41 = .ok (.invokevirtual 198, 3) := by decide +kernel
theorem dX12_findAcross_44 : decode cX12_findAcross 44 = .ok (.ifCond .eq 30, 3) := by decide +kernel
theorem dX12_findAcross_47 : decode cX12_findAcross 47 = .ok (.aload_n 0, 1) := by decide +kernel
theorem dX12_findAcross_48 : decode cX12_findAcross 48 = .ok (.iconst (-1), 1) := by decide +kernel
theorem dX12_findAcross_49 : decode cX12_findAcross 49 = .ok (.putfield 204, 3) := by decide +kernel
theorem dX12_findAcross_52 : decode cX12_findAcross 52 = .ok (.iload_n 3, 1) := by decide +kernel
theorem dX12_findAcross_53 : decode cX12_findAcross 53 = .ok (.iload 5, 2) := by decide +kernel
theorem dX12_findAcross_55 : decode cX12_findAcross 55 = .ok (.invokestatic 207, 3) := by decide +kernel
theorem dX12_findAcross_58 : decode cX12_findAcross 58 = .ok (.iload 4, 2) := by decide +kernel
theorem dX12_findAcross_60 : decode cX12_findAcross 60 = .ok (.invokestatic 207, 3) := by decide +kernel
theorem dX12_findAcross_63 : decode cX12_findAcross 63 = .ok (.istore 6, 2) := by decide +kernel
theorem dX12_findAcross_65 : decode cX12_findAcross 65 = .ok (.iload 5, 2) := by decide +kernel
theorem dX12_findAcross_67 : decode cX12_findAcross 67 = .ok (.iconst 1, 1) := by decide +kernel
theorem dX12_findAcross_68 : decode cX12_findAcross 68 = .ok (.ixor, 1) := by decide +kernel
theorem dX12_findAcross_69 : decode cX12_findAcross 69 = .ok (.istore 7, 2) := by decide +kernel
theorem dX12_findAcross_71 : decode cX12_findAcross 71 = .ok (.goto 31, 3) := by decide +kernel
theorem dX12_findAcross_74 : decode cX12_findAcross 74 = .ok (.aload_n 0, 1) := by decide +kernel
theorem dX12_findAcross_75 : decode cX12_findAcross 75 = .ok (.iload_n 3, 1) := by decide +kernel
theorem dX12_findAcross_76 : decode cX12_findAcross 76 = .ok (.iload 5, 2) := by decide +kernel
theorem dX12_findAcross_78 : decode cX12_findAcross 78 = .ok (.iconst (-1), 1) := by decide +kernel
theorem dX12_findAcross_79 : decode cX12_findAcross 79 = .ok (.invokevirtual 198, 3) := by decide +kernel
theorem dX12_findAcross_82 : decode cX12_findAcross 82 = .ok (.ifCond .eq 20, 3) := by decide +kernel
theorem dX12_findAcross_85 : decode cX12_findAcross 85 = .ok (.aload_n 0, 1) := by decide +kernel
theorem dX12_findAcross_86 : decode cX12_findAcross 86 = .ok (.iconst 0, 1) := by decide +kernel
theorem dX12_findAcross_87 : decode cX12_findAcross 87 = .ok (.putfield 204, 3) := by decide +kernel
theorem dX12_findAcross_90 : decode cX12_findAcross 90 = .ok (.iload_n 3, 1) := by decide +kernel
theorem dX12_findAcross_91 : decode cX12_findAcross 91 = .ok (.iload 5, 2) := by decide +kernel
theorem dX12_findAcross_93 : decode cX12_findAcross 93 = .ok (.invokestatic 207, 3) := by decide +kernel
theorem dX12_findAcross_96 : decode cX12_findAcross 96 = .ok (.istore 6, 2) := by decide +kernel
theorem dX12_findAcross_98 : decode cX12_findAcross 98 = .ok (.iload 4, 2) := by decide +kernel
theorem dX12_findAcross_100 : decode cX12_findAcross 100 = .ok (.istore 7, 2) := by decide +kernel
theorem dX12_findAcross_102 : decode cX12_findAcross 102 = .ok (.aload_n 0, 1) := by decide +kernel
theorem dX12_findAcross_103 : decode cX12_findAcross 103 = .ok (.aload_n 0, 1) := by decide +kernel
theorem dX12_findAcross_104 : decode cX12_findAcross 104 = .ok (.iload 6, 2) := by decide +kernel
theorem dX12_findAcross_106 : decode cX12_findAcross 106 = .ok (.iload 7, 2) := by decide +kernel
theorem dX12_findAcross_108 : decode cX12_findAcross 108 = .ok (.invokevirtual 210, 3) := by decide +kernel
theorem dX12_findAcross_111 : decode cX12_findAcross 111 = .ok (.putfield 213, 3) := by decide +kernel
theorem dX12_findAcross_114 : decode cX12_findAcross 114 = .ok (.iconst 0, 1) := by decide +kernel
theorem dX12_findAcross_115 : decode cX12_findAcross 115 = .ok (.istore 8, 2) := by decide +kernel
theorem dX12_findAcross_117 : decode cX12_findAcross 117 = .ok (.iload 8, 2) := by decide +kernel
theorem dX12_findAcross_119 : decode cX12_findAcross 119 = .ok (.iconst 4, 1) := by decide +kernel
theorem dX12_findAcross_120 : decode cX12_findAcross 120 = .ok (.if_icmp .ge 80, 3) := by decide +kernel
theorem dX12_findAcross_123 : decode cX12_findAcross 123 = .ok (.iconst 1, 1) := by decide +kernel
theorem dX12_findAcross_124 : decode cX12_findAcross 124 = .ok (.istore 9, 2) := by decide +kernel
theorem dX12_findAcross_126 : decode cX12_findAcross 126 = .ok (.iconst 0, 1) := by decide +kernel
theorem dX12_findAcross_127 : decode cX12_findAcross 127 = .ok (.istore 10, 2) := by decide +kernel
theorem dX12_findAcross_129 : decode cX12_findAcross 129 = .ok (.iload 10, 2) := by decide +kernel
theorem dX12_findAcross_131 : decode cX12_findAcross 131 = .ok (.iconst 3, 1) := by decide +kernel
theorem dX12_findAcross_132 : decode cX12_findAcross 132 = .ok (.if_icmp .ge 44, 3) := by decide +kernel
theorem dX12_findAcross_135 : decode cX12_findAcross 135 = .ok (.iload 9, 2) := by decide +kernel
theorem dX12_findAcross_137 : decode cX12_findAcross 137 = .ok (.ifCond .eq 30, 3) := by decide +kernel
theorem dX12_findAcross_140 : decode cX12_findAcross 140 = .ok (.iload 6, 2) := by decide +kernel
theorem dX12_findAcross_142 : decode cX12_findAcross 142 = .ok (.iload 7, 2) := by decide +kernel
theorem dX12_findAcross_144 : decode cX12_findAcross 144 = .ok (.iload 8, 2) := by decide +kernel
theorem dX12_findAcross_146 : decode cX12_findAcross 146 = .ok (.iload 10, 2) := by decide +kernel
theorem dX12_findAcross_148 : decode cX12_findAcross 148 = .ok (.invokestatic 216, 3) := by decide +kernel
theorem dX12_findAcross_151 : decode cX12_findAcross 151 = .ok (.iload_n 3, 1) := by decide +kernel
theorem dX12_findAcross_152 : decode cX12_findAcross 152 = .ok (.iload 4, 2) := by decide +kernel
theorem dX12_findAcross_154 : decode cX12_findAcross 154 = .ok (.iload_n 2, 1) := by decide +kernel
theorem dX12_findAcross_155 : decode cX12_findAcross 155 = .ok (.iload 10, 2) := by decide +kernel
theorem dX12_findAcross_157 : decode cX12_findAcross 157 = .ok (.invokestatic 216, 3) := by decide +kernel
theorem dX12_findAcross_160 : decode cX12_findAcross 160 = .ok (.if_icmp .ne 7, 3) := by decide +kernel
theorem dX12_findAcross_163 : decode cX12_findAcross 163 = .ok (.iconst 1, 1) := by decide +kernel
theorem dX12_findAcross_164 : decode cX12_findAcross 164 = .ok (.goto 4, 3) := by decide +kernel
theorem dX12_findAcross_167 : decode cX12_findAcross 167 = .ok (.iconst 0, 1) := by decide +kernel
theorem dX12_findAcross_168 : decode cX12_findAcross 168 = .ok (.istore 9, 2) := by decide +kernel
theorem dX12_findAcross_170 : decode cX12_findAcross 170 = .ok (.iinc 10 1, 3) := by decide +kernel
theorem dX12_findAcross_173 : decode cX12_findAcross 173 = .ok (.goto (-44), 3) := by decide +kernel
theorem dX12_findAcross_176 : decode cX12_findAcross 176 = .ok (.aload_n 0, 1) := by decide +kernel
theorem dX12_findAcross_177 : decode cX12_findAcross 177 = .ok (.iload 9, 2) := by decide +kernel
theorem dX12_findAcross_179 : decode cX12_findAcross 179 = .ok (.ifCond .eq 8, 3) := by decide +kernel
theorem dX12_findAcross_182 : decode cX12_findAcross 182 = .ok (.iload 8, 2) := by decide +kernel
theorem dX12_findAcross_184 : decode cX12_findAcross 184 = .ok (.goto 7, 3) := by decide +kernel
theorem dX12_findAcross_187 : decode cX12_findAcross 187 = .ok (.aload_n 0, 1) := by decide +kernel
theorem dX12_findAcross_188 : decode cX12_findAcross 188 = .ok (.getfield 220, 3) := by decide +kernel
theorem dX12_findAcross_191 : decode cX12_findAcross 191 = .ok (.putfield 220, 3) := by decide +kernel
theorem dX12_findAcross_194 : decode cX12_findAcross 194 = .ok (.iinc 8 1, 3) := by decide +kernel
theorem dX12_findAcross_197 : decode cX12_findAcross 197 = .ok (.goto (-80), 3) := by decide +kernel
theorem dX12_findAcross_200 : decode cX12_findAcross 200 = .ok (.return_, 1) := by decide +kernel
theorem dX12_skin_0 : decode cX12_skin 0 = .ok (.aload_n 0, 1) := by decide +kernel
theorem dX12_skin_1 : decode cX12_skin 1 = .ok (.iconst 0, 1) := by decide +kernel
theorem dX12_skin_2 : decode cX12_skin 2 = .ok (.putfield 113, 3) := by decide +kernel
theorem dX12_skin_5 : decode cX12_skin 5 = .ok (.aload_n 0, 1) := by decide +kernel
theorem dX12_skin_6 : decode cX12_skin 6 = .ok (.invokevirtual 223, 3) := by decide +kernel
theorem dX12_skin_9 : decode cX12_skin 9 = .ok (.aload_n 0, 1) := by decide +kernel
theorem dX12_skin_10 : decode cX12_skin 10 = .ok (.getfield 195, 3) := by decide +kernel
theorem dX12_skin_13 : decode cX12_skin 13 = .ok (.ireturn, 1) := by decide +kernel
theorem dX12_square_0 : decode cX12_square 0 = .ok (.aload_n 0, 1) := by decide +kernel
theorem dX12_square_1 : decode cX12_square 1 = .ok (.iconst 0, 1) := by decide +kernel
theorem dX12_square_2 : decode cX12_square 2 = .ok (.putfield 113, 3) := by decide +kernel
theorem dX12_square_5 : decode cX12_square 5 = .ok (.aload_n 0, 1) := by decide +kernel
theorem dX12_square_6 : decode cX12_square 6 = .ok (.invokevirtual 223, 3) := by decide +kernel
theorem dX12_square_9 : decode cX12_square 9 = .ok (.iload_n 1, 1) := by decide +kernel
theorem dX12_square_10 : decode cX12_square 10 = .ok (.iconst 0, 1) := by decide +kernel
theorem dX12_square_11 : decode cX12_square 11 = .ok (.aload_n 0, 1) := by decide +kernel
theorem dX12_square_12 : decode cX12_square 12 = .ok (.getfield 195, 3) := by decide +kernel
theorem dX12_square_15 : decode cX12_square 15 = .ok (.iconst 1, 1) := by decide +kernel
theorem dX12_square_16 : decode cX12_square 16 = .ok (.isub, 1) := by decide +kernel
theorem dX12_square_17 : decode cX12_square 17 = .ok (.invokestatic 139, 3) := by decide +kernel
theorem dX12_square_20 : decode cX12_square 20 = .ok (.ifCond .eq 12, 3) := by decide +kernel
theorem dX12_square_23 : decode cX12_square 23 = .ok (.iload_n 2, 1) := by decide +kernel
theorem dX12_square_24 : decode cX12_square 24 = .ok (.iconst 0, 1) := by decide +kernel
theorem dX12_square_25 : decode cX12_square 25 = .ok (.iconst 3, 1) := by decide +kernel
theorem dX12_square_26 : decode cX12_square 26 = .ok (.invokestatic 139, 3) := by decide +kernel
theorem dX12_square_29 : decode cX12_square 29 = .ok (.ifCond .ne 6, 3) := by decide +kernel
theorem dX12_square_32 : decode cX12_square 32 = .ok (.bipush (-3), 2) := by decide +kernel
theorem dX12_square_34 : decode cX12_square 34 = .ok (.ireturn, 1) := by decide +kernel
theorem dX12_square_35 : decode cX12_square 35 = .ok (.aload_n 0, 1) := by decide +kernel
theorem dX12_square_36 : decode cX12_square 36 = .ok (.getfield 46, 3) := by decide +kernel
theorem dX12_square_39 : decode cX12_square 39 = .ok (.iload_n 1, 1) := by decide +kernel
theorem dX12_square_40 : decode cX12_square 40 = .ok (.iaload, 1) := by decide +kernel
theorem dX12_square_41 : decode cX12_square 41 = .ok (.istore_n 3, 1) := by decide +kernel
theorem dX12_square_42 : decode cX12_square 42 = .ok (.iload_n 2, 1) := by decide +kernel
theorem dX12_square_43 : decode cX12_square 43 = .ok (.ifCond .ne 10, 3) := by decide +kernel
theorem dX12_square_46 : decode cX12_square 46 = .ok (.iload_n 3, 1) := by decide +kernel
theorem dX12_square_47 : decode cX12_square 47 = .ok (.invokestatic 186, 3) := by decide +kernel
theorem dX12_square_50 : decode cX12_square 50 = .ok (.goto 33, 3) := by decide +kernel
theorem dX12_square_53 : decode cX12_square 53 = .ok (.iload_n 2, 1) := by decide +kernel
theorem dX12_square_54 : decode cX12_square 54 = .ok (.iconst 1, 1) := by decide +kernel
theorem dX12_square_55 : decode cX12_square 55 = .ok (.if_icmp .ne 10, 3) := by decide +kernel
theorem dX12_square_58 : decode cX12_square 58 = .ok (.iload_n 3, 1) := by decide +kernel
theorem dX12_square_59 : decode cX12_square 59 = .ok (.invokestatic 189, 3) := by decide +kernel
theorem dX12_square_62 : decode cX12_square 62 = .ok (.goto 21, 3) := by decide +kernel
theorem dX12_square_65 : decode cX12_square 65 = .ok (.iload_n 2, 1) := by decide +kernel
theorem dX12_square_66 : decode cX12_square 66 = .ok (.iconst 2, 1) := by decide +kernel
theorem dX12_square_67 : decode cX12_square 67 = .ok (.if_icmp .ne 10, 3) := by decide +kernel
theorem dX12_square_70 : decode cX12_square 70 = .ok (.iload_n 3, 1) := by decide +kernel
theorem dX12_square_71 : decode cX12_square 71 = .ok (.invokestatic 192, 3) := by decide +kernel
theorem dX12_square_74 : decode cX12_square 74 = .ok (.goto 9, 3) := by decide +kernel
theorem dX12_square_77 : decode cX12_square 77 = .ok (.aload_n 0, 1) := by decide +kernel
theorem dX12_square_78 : decode cX12_square 78 = .ok (.getfield 49, 3) := by decide +kernel
theorem dX12_square_81 : decode cX12_square 81 = .ok (.iload_n 1, 1) := by decide +kernel
theorem dX12_square_82 : decode cX12_square 82 = .ok (.iaload, 1) := by decide +kernel
theorem dX12_square_83 : decode cX12_square 83 = .ok (.ireturn, 1) := by decide +kernel
theorem dX12_across_0 : decode cX12_across 0 = .ok (.aload_n 0, 1) := by decide +kernel
theorem dX12_across_1 : decode cX12_across 1 = .ok (.iconst 0, 1) := by decide +kernel
theorem dX12_across_2 : decode cX12_across 2 = .ok (.putfield 113, 3) := by decide +kernel
theorem dX12_across_5 : decode cX12_across 5 = .ok (.aload_n 0, 1) := by decide +kernel
theorem dX12_across_6 : decode cX12_across 6 = .ok (.invokevirtual 223, 3) := by decide +kernel
theorem dX12_across_9 : decode cX12_across 9 = .ok (.iload_n 1, 1) := by decide +kernel
theorem dX12_across_10 : decode cX12_across 10 = .ok (.iconst 0, 1) := by decide +kernel
theorem dX12_across_11 : decode cX12_across 11 = .ok (.aload_n 0, 1) := by decide +kernel
theorem dX12_across_12 : decode cX12_across 12 = .ok (.getfield 195, 3) := by decide +kernel
theorem dX12_across_15 : decode cX12_across 15 = .ok (.iconst 1, 1) := by decide +kernel
theorem dX12_across_16 : decode cX12_across 16 = .ok (.isub, 1) := by decide +kernel
theorem dX12_across_17 : decode cX12_across 17 = .ok (.invokestatic 139, 3) := by decide +kernel
theorem dX12_across_20 : decode cX12_across 20 = .ok (.ifCond .eq 21, 3) := by decide +kernel
theorem dX12_across_23 : decode cX12_across 23 = .ok (.iload_n 2, 1) := by decide +kernel
theorem dX12_across_24 : decode cX12_across 24 = .ok (.iconst 0, 1) := by decide +kernel
theorem dX12_across_25 : decode cX12_across 25 = .ok (.iconst 3, 1) := by decide +kernel
theorem dX12_across_26 : decode cX12_across 26 = .ok (.invokestatic 139, 3) := by decide +kernel
theorem dX12_across_29 : decode cX12_across 29 = .ok (.ifCond .eq 12, 3) := by decide +kernel
theorem dX12_across_32 : decode cX12_across 32 = .ok (.iload_n 3, 1) := by decide +kernel
theorem dX12_across_33 : decode cX12_across 33 = .ok (.iconst 0, 1) := by decide +kernel
theorem dX12_across_34 : decode cX12_across 34 = .ok (.iconst 3, 1) := by decide +kernel
theorem dX12_across_35 : decode cX12_across 35 = .ok (.invokestatic 139, 3) := by decide +kernel
theorem dX12_across_38 : decode cX12_across 38 = .ok (.ifCond .ne 6, 3) := by decide +kernel
theorem dX12_across_41 : decode cX12_across 41 = .ok (.bipush (-3), 2) := by decide +kernel
theorem dX12_across_43 : decode cX12_across 43 = .ok (.ireturn, 1) := by decide +kernel
theorem dX12_across_44 : decode cX12_across 44 = .ok (.aload_n 0, 1) := by decide +kernel
theorem dX12_across_45 : decode cX12_across 45 = .ok (.invokevirtual 182, 3) := by decide +kernel
theorem dX12_across_48 : decode cX12_across 48 = .ok (.ifCond .eq 6, 3) := by decide +kernel
theorem dX12_across_51 : decode cX12_across 51 = .ok (.bipush (-4), 2) := by decide +kernel
theorem dX12_across_53 : decode cX12_across 53 = .ok (.ireturn, 1) := by decide +kernel
theorem dX12_across_54 : decode cX12_across 54 = .ok (.aload_n 0, 1) := by decide +kernel
theorem dX12_across_55 : decode cX12_across 55 = .ok (.iload_n 1, 1) := by decide +kernel
theorem dX12_across_56 : decode cX12_across 56 = .ok (.iload_n 2, 1) := by decide +kernel
theorem dX12_across_57 : decode cX12_across 57 = .ok (.invokevirtual 226, 3) := by decide +kernel
theorem dX12_across_60 : decode cX12_across 60 = .ok (.iload_n 3, 1) := by decide +kernel
theorem dX12_across_61 : decode cX12_across 61 = .ok (.ifCond .ne 10, 3) := by decide +kernel
theorem dX12_across_64 : decode cX12_across 64 = .ok (.aload_n 0, 1) := by decide +kernel
theorem dX12_across_65 : decode cX12_across 65 = .ok (.getfield 213, 3) := by decide +kernel
theorem dX12_across_68 : decode cX12_across 68 = .ok (.goto 50, 3) := by decide +kernel
theorem dX12_across_71 : decode cX12_across 71 = .ok (.iload_n 3, 1) := by decide +kernel
theorem dX12_across_72 : decode cX12_across 72 = .ok (.iconst 1, 1) := by decide +kernel
theorem dX12_across_73 : decode cX12_across 73 = .ok (.if_icmp .ne 10, 3) := by decide +kernel
theorem dX12_across_76 : decode cX12_across 76 = .ok (.aload_n 0, 1) := by decide +kernel
theorem dX12_across_77 : decode cX12_across 77 = .ok (.getfield 220, 3) := by decide +kernel
theorem dX12_across_80 : decode cX12_across 80 = .ok (.goto 38, 3) := by decide +kernel
theorem dX12_across_83 : decode cX12_across 83 = .ok (.iload_n 3, 1) := by decide +kernel
theorem dX12_across_84 : decode cX12_across 84 = .ok (.iconst 2, 1) := by decide +kernel
theorem dX12_across_85 : decode cX12_across 85 = .ok (.if_icmp .ne 23, 3) := by decide +kernel
theorem dX12_across_88 : decode cX12_across 88 = .ok (.aload_n 0, 1) := by decide +kernel
theorem dX12_across_89 : decode cX12_across 89 = .ok (.getfield 204, 3) := by decide +kernel
theorem dX12_across_92 : decode cX12_across 92 = .ok (.iconst (-1), 1) := by decide +kernel
theorem dX12_across_93 : decode cX12_across 93 = .ok (.if_icmp .ne 8, 3) := by decide +kernel
theorem dX12_across_96 : decode cX12_across 96 = .ok (.bipush 9, 2) := by decide +kernel
theorem dX12_across_98 : decode cX12_across 98 = .ok (.goto 20, 3) := by decide +kernel
theorem dX12_across_101 : decode cX12_across 101 = .ok (.aload_n 0, 1) := by decide +kernel
theorem dX12_across_102 : decode cX12_across 102 = .ok (.getfield 204, 3) := by decide +kernel
theorem dX12_across_105 : decode cX12_across 105 = .ok (.goto 13, 3) := by decide +kernel
theorem dX12_across_108 : decode cX12_across 108 = .ok (.aload_n 0, 1) := by decide +kernel
theorem dX12_across_109 : decode cX12_across 109 = .ok (.getfield 16, 3) := by decide +kernel
theorem dX12_across_112 : decode cX12_across 112 = .ok (.iconst 4, 1) := by decide +kernel
theorem dX12_across_113 : decode cX12_across 113 = .ok (.iload_n 1, 1) := by decide +kernel
theorem dX12_across_114 : decode cX12_across 114 = .ok (.imul, 1) := by decide +kernel
theorem dX12_across_115 : decode cX12_across 115 = .ok (.iload_n 2, 1) := by decide +kernel
theorem dX12_across_116 : decode cX12_across 116 = .ok (.iadd, 1) := by decide +kernel
theorem dX12_across_117 : decode cX12_across 117 = .ok (.iaload, 1) := by decide +kernel
theorem dX12_across_118 : decode cX12_across 118 = .ok (.ireturn, 1) := by decide +kernel
theorem dX12_cut_0 : decode cX12_cut 0 = .ok (.aload_n 0, 1) := by decide +kernel
theorem dX12_cut_1 : decode cX12_cut 1 = .ok (.iconst 0, 1) := by decide +kernel
theorem dX12_cut_2 : decode cX12_cut 2 = .ok (.putfield 113, 3) := by decide +kernel
theorem dX12_cut_5 : decode cX12_cut 5 = .ok (.aload_n 0, 1) := by decide +kernel
theorem dX12_cut_6 : decode cX12_cut 6 = .ok (.invokevirtual 223, 3) := by decide +kernel
theorem dX12_cut_9 : decode cX12_cut 9 = .ok (.iload_n 1, 1) := by decide +kernel
theorem dX12_cut_10 : decode cX12_cut 10 = .ok (.iconst 0, 1) := by decide +kernel
theorem dX12_cut_11 : decode cX12_cut 11 = .ok (.aload_n 0, 1) := by decide +kernel
theorem dX12_cut_12 : decode cX12_cut 12 = .ok (.getfield 195, 3) := by decide +kernel
theorem dX12_cut_15 : decode cX12_cut 15 = .ok (.iconst 1, 1) := by decide +kernel
theorem dX12_cut_16 : decode cX12_cut 16 = .ok (.isub, 1) := by decide +kernel
theorem dX12_cut_17 : decode cX12_cut 17 = .ok (.invokestatic 139, 3) := by decide +kernel
theorem dX12_cut_20 : decode cX12_cut 20 = .ok (.ifCond .eq 21, 3) := by decide +kernel
theorem dX12_cut_23 : decode cX12_cut 23 = .ok (.iload_n 2, 1) := by decide +kernel
theorem dX12_cut_24 : decode cX12_cut 24 = .ok (.iconst 0, 1) := by decide +kernel
theorem dX12_cut_25 : decode cX12_cut 25 = .ok (.iconst 3, 1) := by decide +kernel
theorem dX12_cut_26 : decode cX12_cut 26 = .ok (.invokestatic 139, 3) := by decide +kernel
theorem dX12_cut_29 : decode cX12_cut 29 = .ok (.ifCond .eq 12, 3) := by decide +kernel
theorem dX12_cut_32 : decode cX12_cut 32 = .ok (.iload_n 3, 1) := by decide +kernel
theorem dX12_cut_33 : decode cX12_cut 33 = .ok (.iconst 0, 1) := by decide +kernel
theorem dX12_cut_34 : decode cX12_cut 34 = .ok (.iconst 1, 1) := by decide +kernel
theorem dX12_cut_35 : decode cX12_cut 35 = .ok (.invokestatic 139, 3) := by decide +kernel
theorem dX12_cut_38 : decode cX12_cut 38 = .ok (.ifCond .ne 6, 3) := by decide +kernel
theorem dX12_cut_41 : decode cX12_cut 41 = .ok (.bipush (-3), 2) := by decide +kernel
theorem dX12_cut_43 : decode cX12_cut 43 = .ok (.ireturn, 1) := by decide +kernel
theorem dX12_cut_44 : decode cX12_cut 44 = .ok (.aload_n 0, 1) := by decide +kernel
theorem dX12_cut_45 : decode cX12_cut 45 = .ok (.invokevirtual 182, 3) := by decide +kernel
theorem dX12_cut_48 : decode cX12_cut 48 = .ok (.ifCond .eq 6, 3) := by decide +kernel
theorem dX12_cut_51 : decode cX12_cut 51 = .ok (.bipush (-4), 2) := by decide +kernel
theorem dX12_cut_53 : decode cX12_cut 53 = .ok (.ireturn, 1) := by decide +kernel
theorem dX12_cut_54 : decode cX12_cut 54 = .ok (.aload_n 0, 1) := by decide +kernel
theorem dX12_cut_55 : decode cX12_cut 55 = .ok (.invokevirtual 136, 3) := by decide +kernel
theorem dX12_cut_58 : decode cX12_cut 58 = .ok (.aload_n 0, 1) := by decide +kernel
theorem dX12_cut_59 : decode cX12_cut 59 = .ok (.getfield 16, 3) := by decide +kernel
theorem dX12_cut_62 : decode cX12_cut 62 = .ok (.iconst 4, 1) := by decide +kernel
theorem dX12_cut_63 : decode cX12_cut 63 = .ok (.iload_n 1, 1) := by decide +kernel
theorem dX12_cut_64 : decode cX12_cut 64 = .ok (.imul, 1) := by decide +kernel
theorem dX12_cut_65 : decode cX12_cut 65 = .ok (.iload_n 2, 1) := by decide +kernel
theorem dX12_cut_66 : decode cX12_cut 66 = .ok (.iadd, 1) := by decide +kernel
theorem dX12_cut_67 : decode cX12_cut 67 = .ok (.iaload, 1) := by decide +kernel
theorem dX12_cut_68 : decode cX12_cut 68 = .ok (.istore 4, 2) := by decide +kernel
theorem dX12_cut_70 : decode cX12_cut 70 = .ok (.aload_n 0, 1) := by decide +kernel
theorem dX12_cut_71 : decode cX12_cut 71 = .ok (.iload_n 1, 1) := by decide +kernel
theorem dX12_cut_72 : decode cX12_cut 72 = .ok (.iload_n 2, 1) := by decide +kernel
theorem dX12_cut_73 : decode cX12_cut 73 = .ok (.invokevirtual 226, 3) := by decide +kernel
theorem dX12_cut_76 : decode cX12_cut 76 = .ok (.aload_n 0, 1) := by decide +kernel
theorem dX12_cut_77 : decode cX12_cut 77 = .ok (.getfield 16, 3) := by decide +kernel
theorem dX12_cut_80 : decode cX12_cut 80 = .ok (.iconst 4, 1) := by decide +kernel
theorem dX12_cut_81 : decode cX12_cut 81 = .ok (.iload_n 1, 1) := by decide +kernel
theorem dX12_cut_82 : decode cX12_cut 82 = .ok (.imul, 1) := by decide +kernel
theorem dX12_cut_83 : decode cX12_cut 83 = .ok (.iload_n 2, 1) := by decide +kernel
theorem dX12_cut_84 : decode cX12_cut 84 = .ok (.iadd, 1) := by decide +kernel
theorem dX12_cut_85 : decode cX12_cut 85 = .ok (.iload_n 3, 1) := by decide +kernel
theorem dX12_cut_86 : decode cX12_cut 86 = .ok (.iastore, 1) := by decide +kernel
theorem dX12_cut_87 : decode cX12_cut 87 = .ok (.aload_n 0, 1) := by decide +kernel
theorem dX12_cut_88 : decode cX12_cut 88 = .ok (.getfield 16, 3) := by decide +kernel
theorem dX12_cut_91 : decode cX12_cut 91 = .ok (.iconst 4, 1) := by decide +kernel
theorem dX12_cut_92 : decode cX12_cut 92 = .ok (.aload_n 0, 1) := by decide +kernel
theorem dX12_cut_93 : decode cX12_cut 93 = .ok (.getfield 213, 3) := by decide +kernel
theorem dX12_cut_96 : decode cX12_cut 96 = .ok (.imul, 1) := by decide +kernel
theorem dX12_cut_97 : decode cX12_cut 97 = .ok (.aload_n 0, 1) := by decide +kernel
theorem dX12_cut_98 : decode cX12_cut 98 = .ok (.getfield 220, 3) := by decide +kernel
theorem dX12_cut_101 : decode cX12_cut 101 = .ok (.iadd, 1) := by decide +kernel
theorem dX12_cut_102 : decode cX12_cut 102 = .ok (.iload_n 3, 1) := by decide +kernel
theorem dX12_cut_103 : decode cX12_cut 103 = .ok (.iastore, 1) := by decide +kernel
theorem dX12_cut_104 : decode cX12_cut 104 = .ok (.iload 4, 2) := by decide +kernel
theorem dX12_cut_106 : decode cX12_cut 106 = .ok (.ireturn, 1) := by decide +kernel
theorem dX12_cuts_0 : decode cX12_cuts 0 = .ok (.aload_n 0, 1) := by decide +kernel
theorem dX12_cuts_1 : decode cX12_cuts 1 = .ok (.iconst 0, 1) := by decide +kernel
theorem dX12_cuts_2 : decode cX12_cuts 2 = .ok (.putfield 113, 3) := by decide +kernel
theorem dX12_cuts_5 : decode cX12_cuts 5 = .ok (.iconst 0, 1) := by decide +kernel
theorem dX12_cuts_6 : decode cX12_cuts 6 = .ok (.istore_n 1, 1) := by decide +kernel
theorem dX12_cuts_7 : decode cX12_cuts 7 = .ok (.iconst 0, 1) := by decide +kernel
theorem dX12_cuts_8 : decode cX12_cuts 8 = .ok (.istore_n 2, 1) := by decide +kernel
theorem dX12_cuts_9 : decode cX12_cuts 9 = .ok (.iload_n 2, 1) := by decide +kernel
theorem dX12_cuts_10 : decode cX12_cuts 10 = .ok (.sipush 1536, 3) := by decide +kernel
theorem dX12_cuts_13 : decode cX12_cuts 13 = .ok (.if_icmp .ge 18, 3) := by decide +kernel
theorem dX12_cuts_16 : decode cX12_cuts 16 = .ok (.iload_n 1, 1) := by decide +kernel
theorem dX12_cuts_17 : decode cX12_cuts 17 = .ok (.aload_n 0, 1) := by decide +kernel
theorem dX12_cuts_18 : decode cX12_cuts 18 = .ok (.getfield 16, 3) := by decide +kernel
theorem dX12_cuts_21 : decode cX12_cuts 21 = .ok (.iload_n 2, 1) := by decide +kernel
theorem dX12_cuts_22 : decode cX12_cuts 22 = .ok (.iaload, 1) := by decide +kernel
theorem dX12_cuts_23 : decode cX12_cuts 23 = .ok (.iadd, 1) := by decide +kernel
theorem dX12_cuts_24 : decode cX12_cuts 24 = .ok (.istore_n 1, 1) := by decide +kernel
theorem dX12_cuts_25 : decode cX12_cuts 25 = .ok (.iinc 2 1, 3) := by decide +kernel
theorem dX12_cuts_28 : decode cX12_cuts 28 = .ok (.goto (-19), 3) := by decide +kernel
theorem dX12_cuts_31 : decode cX12_cuts 31 = .ok (.iload_n 1, 1) := by decide +kernel
theorem dX12_cuts_32 : decode cX12_cuts 32 = .ok (.iconst 2, 1) := by decide +kernel
theorem dX12_cuts_33 : decode cX12_cuts 33 = .ok (.idiv, 1) := by decide +kernel
theorem dX12_cuts_34 : decode cX12_cuts 34 = .ok (.ireturn, 1) := by decide +kernel
theorem dX12_stepX_0 : decode cX12_stepX 0 = .ok (.iload_n 0, 1) := by decide +kernel
theorem dX12_stepX_1 : decode cX12_stepX 1 = .ok (.ifCond .ne 7, 3) := by decide +kernel
theorem dX12_stepX_4 : decode cX12_stepX 4 = .ok (.iconst 1, 1) := by decide +kernel
theorem dX12_stepX_5 : decode cX12_stepX 5 = .ok (.goto 13, 3) := by decide +kernel
theorem dX12_stepX_8 : decode cX12_stepX 8 = .ok (.iload_n 0, 1) := by decide +kernel
theorem dX12_stepX_9 : decode cX12_stepX 9 = .ok (.iconst 2, 1) := by decide +kernel
theorem dX12_stepX_10 : decode cX12_stepX 10 = .ok (.if_icmp .ne 7, 3) := by decide +kernel
theorem dX12_stepX_13 : decode cX12_stepX 13 = .ok (.iconst (-1), 1) := by decide +kernel
theorem dX12_stepX_14 : decode cX12_stepX 14 = .ok (.goto 4, 3) := by decide +kernel
theorem dX12_stepX_17 : decode cX12_stepX 17 = .ok (.iconst 0, 1) := by decide +kernel
theorem dX12_stepX_18 : decode cX12_stepX 18 = .ok (.ireturn, 1) := by decide +kernel
theorem dX12_stepY_0 : decode cX12_stepY 0 = .ok (.iload_n 0, 1) := by decide +kernel
theorem dX12_stepY_1 : decode cX12_stepY 1 = .ok (.iconst 1, 1) := by decide +kernel
theorem dX12_stepY_2 : decode cX12_stepY 2 = .ok (.if_icmp .ne 7, 3) := by decide +kernel
theorem dX12_stepY_5 : decode cX12_stepY 5 = .ok (.iconst 1, 1) := by decide +kernel
theorem dX12_stepY_6 : decode cX12_stepY 6 = .ok (.goto 13, 3) := by decide +kernel
theorem dX12_stepY_9 : decode cX12_stepY 9 = .ok (.iload_n 0, 1) := by decide +kernel
theorem dX12_stepY_10 : decode cX12_stepY 10 = .ok (.iconst 3, 1) := by decide +kernel
theorem dX12_stepY_11 : decode cX12_stepY 11 = .ok (.if_icmp .ne 7, 3) := by decide +kernel
theorem dX12_stepY_14 : decode cX12_stepY 14 = .ok (.iconst (-1), 1) := by decide +kernel
theorem dX12_stepY_15 : decode cX12_stepY 15 = .ok (.goto 4, 3) := by decide +kernel
theorem dX12_stepY_18 : decode cX12_stepY 18 = .ok (.iconst 0, 1) := by decide +kernel
theorem dX12_stepY_19 : decode cX12_stepY 19 = .ok (.ireturn, 1) := by decide +kernel
theorem dX12_layAcross_0 : decode cX12_layAcross 0 = .ok (.aload_n 0, 1) := by decide +kernel
theorem dX12_layAcross_1 : decode cX12_layAcross 1 = .ok (.iload_n 1, 1) := by decide +kernel
theorem dX12_layAcross_2 : decode cX12_layAcross 2 = .ok (.iload_n 2, 1) := by decide +kernel
theorem dX12_layAcross_3 : decode cX12_layAcross 3 = .ok (.invokevirtual 226, 3) := by decide +kernel
theorem dX12_layAcross_6 : decode cX12_layAcross 6 = .ok (.iload_n 2, 1) := by decide +kernel
theorem dX12_layAcross_7 : decode cX12_layAcross 7 = .ok (.aload_n 0, 1) := by decide +kernel
theorem dX12_layAcross_8 : decode cX12_layAcross 8 = .ok (.getfield 64, 3) := by decide +kernel
theorem dX12_layAcross_11 : decode cX12_layAcross 11 = .ok (.iload_n 1, 1) := by decide +kernel
theorem dX12_layAcross_12 : decode cX12_layAcross 12 = .ok (.iaload, 1) := by decide +kernel
theorem dX12_layAcross_13 : decode cX12_layAcross 13 = .ok (.iadd, 1) := by decide +kernel
theorem dX12_layAcross_14 : decode cX12_layAcross 14 = .ok (.iconst 4, 1) := by decide +kernel
theorem dX12_layAcross_15 : decode cX12_layAcross 15 = .ok (.irem, 1) := by decide +kernel
theorem dX12_layAcross_16 : decode cX12_layAcross 16 = .ok (.istore_n 3, 1) := by decide +kernel
theorem dX12_layAcross_17 : decode cX12_layAcross 17 = .ok (.aload_n 0, 1) := by decide +kernel
theorem dX12_layAcross_18 : decode cX12_layAcross 18 = .ok (.getfield 58, 3) := by decide +kernel
theorem dX12_layAcross_21 : decode cX12_layAcross 21 = .ok (.iload_n 1, 1) := by decide +kernel
theorem dX12_layAcross_22 : decode cX12_layAcross 22 = .ok (.iaload, 1) := by decide +kernel
theorem dX12_layAcross_23 : decode cX12_layAcross 23 = .ok (.iload_n 3, 1) := by decide +kernel
theorem dX12_layAcross_24 : decode cX12_layAcross 24 = .ok (.invokestatic 230, 3) := by decide +kernel
theorem dX12_layAcross_27 : decode cX12_layAcross 27 = .ok (.iadd, 1) := by decide +kernel
theorem dX12_layAcross_28 : decode cX12_layAcross 28 = .ok (.istore 4, 2) := by decide +kernel
theorem dX12_layAcross_30 : decode cX12_layAcross 30 = .ok (.aload_n 0, 1) := by decide +kernel
theorem dX12_layAcross_31 : decode cX12_layAcross 31 = .ok (.getfield 61, 3) := by decide +kernel
theorem dX12_layAcross_34 : decode cX12_layAcross 34 = .ok (.iload_n 1, 1) := by decide +kernel
theorem dX12_layAcross_35 : decode cX12_layAcross 35 = .ok (.iaload, 1) := by decide +kernel
theorem dX12_layAcross_36 : decode cX12_layAcross 36 = .ok (.iload_n 3, 1) := by decide +kernel
theorem dX12_layAcross_37 : decode cX12_layAcross 37 = .ok (.invokestatic 233, 3) := by decide +kernel
theorem dX12_layAcross_40 : decode cX12_layAcross 40 = .ok (.iadd, 1) := by decide +kernel
theorem dX12_layAcross_41 : decode cX12_layAcross 41 = .ok (.istore 5, 2) := by decide +kernel
theorem dX12_layAcross_43 : decode cX12_layAcross 43 = .ok (.iload_n 3, 1) := by decide +kernel
theorem dX12_layAcross_44 : decode cX12_layAcross 44 = .ok (.iconst 2, 1) := by decide +kernel
theorem dX12_layAcross_45 : decode cX12_layAcross 45 = .ok (.iadd, 1) := by decide +kernel
theorem dX12_layAcross_46 : decode cX12_layAcross 46 = .ok (.aload_n 0, 1) := by decide +kernel
theorem dX12_layAcross_47 : decode cX12_layAcross 47 = .ok (.getfield 220, 3) := by decide +kernel
theorem dX12_layAcross_50 : decode cX12_layAcross 50 = .ok (.isub, 1) := by decide +kernel
theorem dX12_layAcross_51 : decode cX12_layAcross 51 = .ok (.iconst 4, 1) := by decide +kernel
theorem dX12_layAcross_52 : decode cX12_layAcross 52 = .ok (.iadd, 1) := by decide +kernel
theorem dX12_layAcross_53 : decode cX12_layAcross 53 = .ok (.iconst 4, 1) := by decide +kernel
theorem dX12_layAcross_54 : decode cX12_layAcross 54 = .ok (.irem, 1) := by decide +kernel
theorem dX12_layAcross_55 : decode cX12_layAcross 55 = .ok (.istore 6, 2) := by decide +kernel
theorem dX12_layAcross_57 : decode cX12_layAcross 57 = .ok (.aload_n 0, 1) := by decide +kernel
theorem dX12_layAcross_58 : decode cX12_layAcross 58 = .ok (.getfield 213, 3) := by decide +kernel
theorem dX12_layAcross_61 : decode cX12_layAcross 61 = .ok (.istore 7, 2) := by decide +kernel
theorem dX12_layAcross_63 : decode cX12_layAcross 63 = .ok (.aload_n 0, 1) := by decide +kernel
theorem dX12_layAcross_64 : decode cX12_layAcross 64 = .ok (.getfield 55, 3) := by decide +kernel
theorem dX12_layAcross_67 : decode cX12_layAcross 67 = .ok (.iload 7, 2) := by decide +kernel
theorem dX12_layAcross_69 : decode cX12_layAcross 69 = .ok (.iaload, 1) := by decide +kernel
theorem dX12_layAcross_70 : decode cX12_layAcross 70 = .ok (.iconst 1, 1) := by decide +kernel
theorem dX12_layAcross_71 : decode cX12_layAcross 71 = .ok (.if_icmp .ne 45, 3) := by decide +kernel
theorem dX12_layAcross_74 : decode cX12_layAcross 74 = .ok (.aload_n 0, 1) := by decide +kernel
theorem dX12_layAcross_75 : decode cX12_layAcross 75 = .ok (.getfield 58, 3) := by decide +kernel
theorem dX12_layAcross_78 : decode cX12_layAcross 78 = .ok (.iload 7, 2) := by decide +kernel
theorem dX12_layAcross_80 : decode cX12_layAcross 80 = .ok (.iaload, 1) := by decide +kernel
theorem dX12_layAcross_81 : decode cX12_layAcross 81 = .ok (.iload 4, 2) := by decide +kernel
theorem dX12_layAcross_83 : decode cX12_layAcross 83 = .ok (.if_icmp .ne 27, 3) := by decide +kernel
theorem dX12_layAcross_86 : decode cX12_layAcross 86 = .ok (.aload_n 0, 1) := by decide +kernel
theorem dX12_layAcross_87 : decode cX12_layAcross 87 = .ok (.getfield 61, 3) := by decide +kernel
theorem dX12_layAcross_90 : decode cX12_layAcross 90 = .ok (.iload 7, 2) := by decide +kernel
theorem dX12_layAcross_92 : decode cX12_layAcross 92 = .ok (.iaload, 1) := by decide +kernel
theorem dX12_layAcross_93 : decode cX12_layAcross 93 = .ok (.iload 5, 2) := by decide +kernel
theorem dX12_layAcross_95 : decode cX12_layAcross 95 = .ok (.if_icmp .ne 15, 3) := by decide +kernel
theorem dX12_layAcross_98 : decode cX12_layAcross 98 = .ok (.aload_n 0, 1) := by decide +kernel
theorem dX12_layAcross_99 : decode cX12_layAcross 99 = .ok (.getfield 64, 3) := by decide +kernel
theorem dX12_layAcross_102 : decode cX12_layAcross 102 = .ok (.iload 7, 2) := by decide +kernel
theorem dX12_layAcross_104 : decode cX12_layAcross 104 = .ok (.iaload, 1) := by decide +kernel
theorem dX12_layAcross_105 : decode cX12_layAcross 105 = .ok (.iload 6, 2) := by decide +kernel
theorem dX12_layAcross_107 : decode cX12_layAcross 107 = .ok (.if_icmp .eq 7, 3) := by decide +kernel
theorem dX12_layAcross_110 : decode cX12_layAcross 110 = .ok (.iconst 2, 1) := by decide +kernel
theorem dX12_layAcross_111 : decode cX12_layAcross 111 = .ok (.goto 4, 3) := by decide +kernel
theorem dX12_layAcross_114 : decode cX12_layAcross 114 = .ok (.iconst 0, 1) := by decide +kernel
theorem dX12_layAcross_115 : decode cX12_layAcross 115 = .ok (.ireturn, 1) := by decide +kernel
theorem dX12_layAcross_116 : decode cX12_layAcross 116 = .ok (.aload_n 0, 1) := by decide +kernel
theorem dX12_layAcross_117 : decode cX12_layAcross 117 = .ok (.getfield 55, 3) := by decide +kernel
theorem dX12_layAcross_120 : decode cX12_layAcross 120 = .ok (.iload 7, 2) := by decide +kernel
theorem dX12_layAcross_122 : decode cX12_layAcross 122 = .ok (.iconst 1, 1) := by decide +kernel
theorem dX12_layAcross_123 : decode cX12_layAcross 123 = .ok (.iastore, 1) := by decide +kernel
theorem dX12_layAcross_124 : decode cX12_layAcross 124 = .ok (.aload_n 0, 1) := by decide +kernel
theorem dX12_layAcross_125 : decode cX12_layAcross 125 = .ok (.getfield 58, 3) := by decide +kernel
theorem dX12_layAcross_128 : decode cX12_layAcross 128 = .ok (.iload 7, 2) := by decide +kernel
theorem dX12_layAcross_130 : decode cX12_layAcross 130 = .ok (.iload 4, 2) := by decide +kernel
theorem dX12_layAcross_132 : decode cX12_layAcross 132 = .ok (.iastore, 1) := by decide +kernel
theorem dX12_layAcross_133 : decode cX12_layAcross 133 = .ok (.aload_n 0, 1) := by decide +kernel
theorem dX12_layAcross_134 : decode cX12_layAcross 134 = .ok (.getfield 61, 3) := by decide +kernel
theorem dX12_layAcross_137 : decode cX12_layAcross 137 = .ok (.iload 7, 2) := by decide +kernel
theorem dX12_layAcross_139 : decode cX12_layAcross 139 = .ok (.iload 5, 2) := by decide +kernel
theorem dX12_layAcross_141 : decode cX12_layAcross 141 = .ok (.iastore, 1) := by decide +kernel
theorem dX12_layAcross_142 : decode cX12_layAcross 142 = .ok (.aload_n 0, 1) := by decide +kernel
theorem dX12_layAcross_143 : decode cX12_layAcross 143 = .ok (.getfield 64, 3) := by decide +kernel
theorem dX12_layAcross_146 : decode cX12_layAcross 146 = .ok (.iload 7, 2) := by decide +kernel
theorem dX12_layAcross_148 : decode cX12_layAcross 148 = .ok (.iload 6, 2) := by decide +kernel
theorem dX12_layAcross_150 : decode cX12_layAcross 150 = .ok (.iastore, 1) := by decide +kernel
theorem dX12_layAcross_151 : decode cX12_layAcross 151 = .ok (.iconst 1, 1) := by decide +kernel
theorem dX12_layAcross_152 : decode cX12_layAcross 152 = .ok (.ireturn, 1) := by decide +kernel
theorem dX12_lay_0 : decode cX12_lay 0 = .ok (.iconst 0, 1) := by decide +kernel
theorem dX12_lay_1 : decode cX12_lay 1 = .ok (.istore_n 1, 1) := by decide +kernel
theorem dX12_lay_2 : decode cX12_lay 2 = .ok (.iload_n 1, 1) := by decide +kernel
theorem dX12_lay_3 : decode cX12_lay 3 = .ok (.aload_n 0, 1) := by decide +kernel
theorem dX12_lay_4 : decode cX12_lay 4 = .ok (.getfield 195, 3) := by decide +kernel
theorem dX12_lay_7 : decode cX12_lay 7 = .ok (.if_icmp .ge 16, 3) := by decide +kernel
theorem dX12_lay_10 : decode cX12_lay 10 = .ok (.aload_n 0, 1) := by decide +kernel
theorem dX12_lay_11 : decode cX12_lay 11 = .ok (.getfield 55, 3) := by decide +kernel
theorem dX12_lay_14 : decode cX12_lay 14 = .ok (.iload_n 1, 1) := by decide +kernel
theorem dX12_lay_15 : decode cX12_lay 15 = .ok (.iconst 0, 1) := by decide +kernel
theorem dX12_lay_16 : decode cX12_lay 16 = .ok (.iastore, 1) := by decide +kernel
theorem dX12_lay_17 : decode cX12_lay 17 = .ok (.iinc 1 1, 3) := by decide +kernel
theorem dX12_lay_20 : decode cX12_lay 20 = .ok (.goto (-18), 3) := by decide +kernel
theorem dX12_lay_23 : decode cX12_lay 23 = .ok (.aload_n 0, 1) := by decide +kernel
theorem dX12_lay_24 : decode cX12_lay 24 = .ok (.getfield 55, 3) := by decide +kernel
theorem dX12_lay_27 : decode cX12_lay 27 = .ok (.iconst 0, 1) := by decide +kernel
theorem dX12_lay_28 : decode cX12_lay 28 = .ok (.iconst 1, 1) := by decide +kernel
theorem dX12_lay_29 : decode cX12_lay 29 = .ok (.iastore, 1) := by decide +kernel
theorem dX12_lay_30 : decode cX12_lay 30 = .ok (.aload_n 0, 1) := by decide +kernel
theorem dX12_lay_31 : decode cX12_lay 31 = .ok (.getfield 58, 3) := by decide +kernel
theorem dX12_lay_34 : decode cX12_lay 34 = .ok (.iconst 0, 1) := by decide +kernel
theorem dX12_lay_35 : decode cX12_lay 35 = .ok (.iconst 0, 1) := by decide +kernel
theorem dX12_lay_36 : decode cX12_lay 36 = .ok (.iastore, 1) := by decide +kernel
theorem dX12_lay_37 : decode cX12_lay 37 = .ok (.aload_n 0, 1) := by decide +kernel
theorem dX12_lay_38 : decode cX12_lay 38 = .ok (.getfield 61, 3) := by decide +kernel
theorem dX12_lay_41 : decode cX12_lay 41 = .ok (.iconst 0, 1) := by decide +kernel
theorem dX12_lay_42 : decode cX12_lay 42 = .ok (.iconst 0, 1) := by decide +kernel
theorem dX12_lay_43 : decode cX12_lay 43 = .ok (.iastore, 1) := by decide +kernel
theorem dX12_lay_44 : decode cX12_lay 44 = .ok (.aload_n 0, 1) := by decide +kernel
theorem dX12_lay_45 : decode cX12_lay 45 = .ok (.getfield 64, 3) := by decide +kernel
theorem dX12_lay_48 : decode cX12_lay 48 = .ok (.iconst 0, 1) := by decide +kernel
theorem dX12_lay_49 : decode cX12_lay 49 = .ok (.iconst 0, 1) := by decide +kernel
theorem dX12_lay_50 : decode cX12_lay 50 = .ok (.iastore, 1) := by decide +kernel
theorem dX12_lay_51 : decode cX12_lay 51 = .ok (.iconst 1, 1) := by decide +kernel
theorem dX12_lay_52 : decode cX12_lay 52 = .ok (.istore_n 1, 1) := by decide +kernel
theorem dX12_lay_53 : decode cX12_lay 53 = .ok (.iconst 0, 1) := by decide +kernel
theorem dX12_lay_54 : decode cX12_lay 54 = .ok (.istore_n 2, 1) := by decide +kernel
theorem dX12_lay_55 : decode cX12_lay 55 = .ok (.iconst 1, 1) := by decide +kernel
theorem dX12_lay_56 : decode cX12_lay 56 = .ok (.istore_n 3, 1) := by decide +kernel
theorem dX12_lay_57 : decode cX12_lay 57 = .ok (.iload_n 3, 1) := by decide +kernel
theorem dX12_lay_58 : decode cX12_lay 58 = .ok (.ifCond .eq 111, 3) := by decide +kernel
theorem dX12_lay_61 : decode cX12_lay 61 = .ok (.iconst 0, 1) := by decide +kernel
theorem dX12_lay_62 : decode cX12_lay 62 = .ok (.istore_n 3, 1) := by decide +kernel
theorem dX12_lay_63 : decode cX12_lay 63 = .ok (.iconst 0, 1) := by decide +kernel
theorem dX12_lay_64 : decode cX12_lay 64 = .ok (.istore 4, 2) := by decide +kernel
theorem dX12_lay_66 : decode cX12_lay 66 = .ok (.iload 4, 2) := by decide +kernel
theorem dX12_lay_68 : decode cX12_lay 68 = .ok (.iconst 4, 1) := by decide +kernel
theorem dX12_lay_69 : decode cX12_lay 69 = .ok (.aload_n 0, 1) := by decide +kernel
theorem dX12_lay_70 : decode cX12_lay 70 = .ok (.getfield 195, 3) := by decide +kernel
theorem dX12_lay_73 : decode cX12_lay 73 = .ok (.imul, 1) := by decide +kernel
theorem dX12_lay_74 : decode cX12_lay 74 = .ok (.if_icmp .ge 92, 3) := by decide +kernel
theorem dX12_lay_77 : decode cX12_lay 77 = .ok (.aload_n 0, 1) := by decide +kernel
theorem dX12_lay_78 : decode cX12_lay 78 = .ok (.getfield 55, 3) := by decide +kernel
theorem dX12_lay_81 : decode cX12_lay 81 = .ok (.iload 4, 2) := by decide +kernel
theorem dX12_lay_83 : decode cX12_lay 83 = .ok (.iconst 4, 1) := by decide +kernel
theorem dX12_lay_84 : decode cX12_lay 84 = .ok (.idiv, 1) := by decide +kernel
theorem dX12_lay_85 : decode cX12_lay 85 = .ok (.iaload, 1) := by decide +kernel
theorem dX12_lay_86 : decode cX12_lay 86 = .ok (.iconst 1, 1) := by decide +kernel
theorem dX12_lay_87 : decode cX12_lay 87 = .ok (.if_icmp .ne 73, 3) := by decide +kernel
theorem dX12_lay_90 : decode cX12_lay 90 = .ok (.aload_n 0, 1) := by decide +kernel
theorem dX12_lay_91 : decode cX12_lay 91 = .ok (.getfield 16, 3) := by decide +kernel
theorem dX12_lay_94 : decode cX12_lay 94 = .ok (.iload 4, 2) := by decide +kernel
theorem dX12_lay_96 : decode cX12_lay 96 = .ok (.iaload, 1) := by decide +kernel
theorem dX12_lay_97 : decode cX12_lay 97 = .ok (.ifCond .ne 63, 3) := by decide +kernel
theorem dX12_lay_100 : decode cX12_lay 100 = .ok (.aload_n 0, 1) := by decide +kernel
theorem dX12_lay_101 : decode cX12_lay 101 = .ok (.iload 4, 2) := by decide +kernel
theorem dX12_lay_103 : decode cX12_lay 103 = .ok (.iconst 4, 1) := by decide +kernel
theorem dX12_lay_104 : decode cX12_lay 104 = .ok (.idiv, 1) := by decide +kernel
theorem dX12_lay_105 : decode cX12_lay 105 = .ok (.iload 4, 2) := by decide +kernel
theorem dX12_lay_107 : decode cX12_lay 107 = .ok (.iconst 4, 1) := by decide +kernel
theorem dX12_lay_108 : decode cX12_lay 108 = .ok (.irem, 1) := by decide +kernel
theorem dX12_lay_109 : decode cX12_lay 109 = .ok (.invokevirtual 236, 3) := by decide +kernel
theorem dX12_lay_112 : decode cX12_lay 112 = .ok (.istore 5, 2) := by decide +kernel
theorem dX12_lay_114 : decode cX12_lay 114 = .ok (.iload_n 2, 1) := by decide +kernel
theorem dX12_lay_115 : decode cX12_lay 115 = .ok (.ifCond .ne 9, 3) := by decide +kernel
theorem dX12_lay_118 : decode cX12_lay 118 = .ok (.iload 5, 2) := by decide +kernel
theorem dX12_lay_120 : decode cX12_lay 120 = .ok (.iconst 2, 1) := by decide +kernel
theorem dX12_lay_121 : decode cX12_lay 121 = .ok (.if_icmp .ne 7, 3) := by decide +kernel
theorem dX12_lay_124 : decode cX12_lay 124 = .ok (.iconst 1, 1) := by decide +kernel
theorem dX12_lay_125 : decode cX12_lay 125 = .ok (.goto 4, 3) := by decide +kernel
theorem dX12_lay_128 : decode cX12_lay 128 = .ok (.iconst 0, 1) := by decide +kernel
theorem dX12_lay_129 : decode cX12_lay 129 = .ok (.istore_n 2, 1) := by decide +kernel
theorem dX12_lay_130 : decode cX12_lay 130 = .ok (.iload_n 1, 1) := by decide +kernel
theorem dX12_lay_131 : decode cX12_lay 131 = .ok (.iload 5, 2) := by decide +kernel
theorem dX12_lay_133 : decode cX12_lay 133 = .ok (.iconst 1, 1) := by decide +kernel
theorem dX12_lay_134 : decode cX12_lay 134 = .ok (.if_icmp .ne 7, 3) := by decide +kernel
theorem dX12_lay_137 : decode cX12_lay 137 = .ok (.iconst 1, 1) := by decide +kernel
theorem dX12_lay_138 : decode cX12_lay 138 = .ok (.goto 4, 3) := by decide +kernel
theorem dX12_lay_141 : decode cX12_lay 141 = .ok (.iconst 0, 1) := by decide +kernel
theorem dX12_lay_142 : decode cX12_lay 142 = .ok (.iadd, 1) := by decide +kernel
theorem dX12_lay_143 : decode cX12_lay 143 = .ok (.istore_n 1, 1) := by decide +kernel
theorem dX12_lay_144 : decode cX12_lay 144 = .ok (.iload_n 3, 1) := by decide +kernel
theorem dX12_lay_145 : decode cX12_lay 145 = .ok (.ifCond .ne 9, 3) := by decide +kernel
theorem dX12_lay_148 : decode cX12_lay 148 = .ok (.iload 5, 2) := by decide +kernel
theorem dX12_lay_150 : decode cX12_lay 150 = .ok (.iconst 1, 1) := by decide +kernel
theorem dX12_lay_151 : decode cX12_lay 151 = .ok (.if_icmp .ne 7, 3) := by decide +kernel
theorem dX12_lay_154 : decode cX12_lay 154 = .ok (.iconst 1, 1) := by decide +kernel
theorem dX12_lay_155 : decode cX12_lay 155 = .ok (.goto 4, 3) := by decide +kernel
theorem dX12_lay_158 : decode cX12_lay 158 = .ok (.iconst 0, 1) := by decide +kernel
theorem dX12_lay_159 : decode cX12_lay 159 = .ok (.istore_n 3, 1) := by decide +kernel
theorem dX12_lay_160 : decode cX12_lay 160 = .ok (.iinc 4 1, 3) := by decide +kernel
theorem dX12_lay_163 : decode cX12_lay 163 = .ok (.goto (-97), 3) := by decide +kernel
theorem dX12_lay_166 : decode cX12_lay 166 = .ok (.goto (-109), 3) := by decide +kernel
theorem dX12_lay_169 : decode cX12_lay 169 = .ok (.iload_n 1, 1) := by decide +kernel
theorem dX12_lay_170 : decode cX12_lay 170 = .ok (.aload_n 0, 1) := by decide +kernel
theorem dX12_lay_171 : decode cX12_lay 171 = .ok (.getfield 195, 3) := by decide +kernel
theorem dX12_lay_174 : decode cX12_lay 174 = .ok (.if_icmp .ge 5, 3) := by decide +kernel
theorem dX12_lay_177 : decode cX12_lay 177 = .ok (.iconst 1, 1) := by decide +kernel
theorem dX12_lay_178 : decode cX12_lay 178 = .ok (.ireturn, 1) := by decide +kernel
theorem dX12_lay_179 : decode cX12_lay 179 = .ok (.iload_n 2, 1) := by decide +kernel
theorem dX12_lay_180 : decode cX12_lay 180 = .ok (.ifCond .eq 5, 3) := by decide +kernel
theorem dX12_lay_183 : decode cX12_lay 183 = .ok (.iconst 2, 1) := by decide +kernel
theorem dX12_lay_184 : decode cX12_lay 184 = .ok (.ireturn, 1) := by decide +kernel
theorem dX12_lay_185 : decode cX12_lay 185 = .ok (.iconst 0, 1) := by decide +kernel
theorem dX12_lay_186 : decode cX12_lay 186 = .ok (.istore 4, 2) := by decide +kernel
theorem dX12_lay_188 : decode cX12_lay 188 = .ok (.iload 4, 2) := by decide +kernel
theorem dX12_lay_190 : decode cX12_lay 190 = .ok (.aload_n 0, 1) := by decide +kernel
theorem dX12_lay_191 : decode cX12_lay 191 = .ok (.getfield 195, 3) := by decide +kernel
theorem dX12_lay_194 : decode cX12_lay 194 = .ok (.if_icmp .ge 61, 3) := by decide +kernel
theorem dX12_lay_197 : decode cX12_lay 197 = .ok (.iconst 0, 1) := by decide +kernel
theorem dX12_lay_198 : decode cX12_lay 198 = .ok (.istore 5, 2) := by decide +kernel
theorem dX12_lay_200 : decode cX12_lay 200 = .ok (.iload 5, 2) := by decide +kernel
theorem dX12_lay_202 : decode cX12_lay 202 = .ok (.iload 4, 2) := by decide +kernel
theorem dX12_lay_204 : decode cX12_lay 204 = .ok (.if_icmp .ge 45, 3) := by decide +kernel
theorem dX12_lay_207 : decode cX12_lay 207 = .ok (.aload_n 0, 1) := by decide +kernel
theorem dX12_lay_208 : decode cX12_lay 208 = .ok (.getfield 58, 3) := by decide +kernel
theorem dX12_lay_211 : decode cX12_lay 211 = .ok (.iload 4, 2) := by decide +kernel
theorem dX12_lay_213 : decode cX12_lay 213 = .ok (.iaload, 1) := by decide +kernel
theorem dX12_lay_214 : decode cX12_lay 214 = .ok (.aload_n 0, 1) := by decide +kernel
theorem dX12_lay_215 : decode cX12_lay 215 = .ok (.getfield 58, 3) := by decide +kernel
theorem dX12_lay_218 : decode cX12_lay 218 = .ok (.iload 5, 2) := by decide +kernel
theorem dX12_lay_220 : decode cX12_lay 220 = .ok (.iaload, 1) := by decide +kernel
theorem dX12_lay_221 : decode cX12_lay 221 = .ok (.if_icmp .ne 22, 3) := by decide +kernel
theorem dX12_lay_224 : decode cX12_lay 224 = .ok (.aload_n 0, 1) := by decide +kernel
theorem dX12_lay_225 : decode cX12_lay 225 = .ok (.getfield 61, 3) := by decide +kernel
theorem dX12_lay_228 : decode cX12_lay 228 = .ok (.iload 4, 2) := by decide +kernel
theorem dX12_lay_230 : decode cX12_lay 230 = .ok (.iaload, 1) := by decide +kernel
theorem dX12_lay_231 : decode cX12_lay 231 = .ok (.aload_n 0, 1) := by decide +kernel
theorem dX12_lay_232 : decode cX12_lay 232 = .ok (.getfield 61, 3) := by decide +kernel
theorem dX12_lay_235 : decode cX12_lay 235 = .ok (.iload 5, 2) := by decide +kernel
theorem dX12_lay_237 : decode cX12_lay 237 = .ok (.iaload, 1) := by decide +kernel
theorem dX12_lay_238 : decode cX12_lay 238 = .ok (.if_icmp .ne 5, 3) := by decide +kernel
theorem dX12_lay_241 : decode cX12_lay 241 = .ok (.iconst 3, 1) := by decide +kernel
theorem dX12_lay_242 : decode cX12_lay 242 = .ok (.ireturn, 1) := by decide +kernel
theorem dX12_lay_243 : decode cX12_lay 243 = .ok (.iinc 5 1, 3) := by decide +kernel
theorem dX12_lay_246 : decode cX12_lay 246 = .ok (.goto (-46), 3) := by decide +kernel
theorem dX12_lay_249 : decode cX12_lay 249 = .ok (.iinc 4 1, 3) := by decide +kernel
theorem dX12_lay_252 : decode cX12_lay 252 = .ok (.goto (-64), 3) := by decide +kernel
theorem dX12_lay_255 : decode cX12_lay 255 = .ok (.iconst 0, 1) := by decide +kernel
theorem dX12_lay_256 : decode cX12_lay 256 = .ok (.ireturn, 1) := by decide +kernel
theorem dX12_open_0 : decode cX12_open 0 = .ok (.aload_n 0, 1) := by decide +kernel
theorem dX12_open_1 : decode cX12_open 1 = .ok (.iconst 0, 1) := by decide +kernel
theorem dX12_open_2 : decode cX12_open 2 = .ok (.putfield 113, 3) := by decide +kernel
theorem dX12_open_5 : decode cX12_open 5 = .ok (.aload_n 0, 1) := by decide +kernel
theorem dX12_open_6 : decode cX12_open 6 = .ok (.invokevirtual 182, 3) := by decide +kernel
theorem dX12_open_9 : decode cX12_open 9 = .ok (.ifCond .eq 6, 3) := by decide +kernel
theorem dX12_open_12 : decode cX12_open 12 = .ok (.bipush (-4), 2) := by decide +kernel
theorem dX12_open_14 : decode cX12_open 14 = .ok (.ireturn, 1) := by decide +kernel
theorem dX12_open_15 : decode cX12_open 15 = .ok (.aload_n 0, 1) := by decide +kernel
theorem dX12_open_16 : decode cX12_open 16 = .ok (.invokevirtual 223, 3) := by decide +kernel
theorem dX12_open_19 : decode cX12_open 19 = .ok (.aload_n 0, 1) := by decide +kernel
theorem dX12_open_20 : decode cX12_open 20 = .ok (.getfield 195, 3) := by decide +kernel
theorem dX12_open_23 : decode cX12_open 23 = .ok (.bipush 60, 2) := by decide +kernel
theorem dX12_open_25 : decode cX12_open 25 = .ok (.if_icmp .le 6, 3) := by decide +kernel
theorem dX12_open_28 : decode cX12_open 28 = .ok (.bipush (-5), 2) := by decide +kernel
theorem dX12_open_30 : decode cX12_open 30 = .ok (.ireturn, 1) := by decide +kernel
theorem dX12_open_31 : decode cX12_open 31 = .ok (.aload_n 0, 1) := by decide +kernel
theorem dX12_open_32 : decode cX12_open 32 = .ok (.invokevirtual 239, 3) := by decide +kernel
theorem dX12_open_35 : decode cX12_open 35 = .ok (.istore_n 1, 1) := by decide +kernel
theorem dX12_open_36 : decode cX12_open 36 = .ok (.iload_n 1, 1) := by decide +kernel
theorem dX12_open_37 : decode cX12_open 37 = .ok (.ifCond .eq 8, 3) := by decide +kernel
theorem dX12_open_40 : decode cX12_open 40 = .ok (.bipush (-20), 2) := by decide +kernel
theorem dX12_open_42 : decode cX12_open 42 = .ok (.iload_n 1, 1) := by decide +kernel
theorem dX12_open_43 : decode cX12_open 43 = .ok (.isub, 1) := by decide +kernel
theorem dX12_open_44 : decode cX12_open 44 = .ok (.ireturn, 1) := by decide +kernel
theorem dX12_open_45 : decode cX12_open 45 = .ok (.iconst 0, 1) := by decide +kernel
theorem dX12_open_46 : decode cX12_open 46 = .ok (.istore_n 2, 1) := by decide +kernel
theorem dX12_open_47 : decode cX12_open 47 = .ok (.iload_n 2, 1) := by decide +kernel
theorem dX12_open_48 : decode cX12_open 48 = .ok (.aload_n 0, 1) := by decide +kernel
theorem dX12_open_49 : decode cX12_open 49 = .ok (.getfield 195, 3) := by decide +kernel
theorem dX12_open_52 : decode cX12_open 52 = .ok (.if_icmp .ge 44, 3) := by decide +kernel
theorem dX12_open_55 : decode cX12_open 55 = .ok (.aload_n 0, 1) := by decide +kernel
theorem dX12_open_56 : decode cX12_open 56 = .ok (.getfield 58, 3) := by decide +kernel
theorem dX12_open_59 : decode cX12_open 59 = .ok (.iload_n 2, 1) := by decide +kernel
theorem dX12_open_60 : decode cX12_open 60 = .ok (.iaload, 1) := by decide +kernel
theorem dX12_open_61 : decode cX12_open 61 = .ok (.bipush (-30), 2) := by decide +kernel
theorem dX12_open_63 : decode cX12_open 63 = .ok (.bipush 30, 2) := by decide +kernel
theorem dX12_open_65 : decode cX12_open 65 = .ok (.invokestatic 139, 3) := by decide +kernel
theorem dX12_open_68 : decode cX12_open 68 = .ok (.ifCond .eq 19, 3) := by decide +kernel
theorem dX12_open_71 : decode cX12_open 71 = .ok (.aload_n 0, 1) := by decide +kernel
theorem dX12_open_72 : decode cX12_open 72 = .ok (.getfield 61, 3) := by decide +kernel
theorem dX12_open_75 : decode cX12_open 75 = .ok (.iload_n 2, 1) := by decide +kernel
theorem dX12_open_76 : decode cX12_open 76 = .ok (.iaload, 1) := by decide +kernel
theorem dX12_open_77 : decode cX12_open 77 = .ok (.bipush (-30), 2) := by decide +kernel
theorem dX12_open_79 : decode cX12_open 79 = .ok (.bipush 30, 2) := by decide +kernel
theorem dX12_open_81 : decode cX12_open 81 = .ok (.invokestatic 139, 3) := by decide +kernel
theorem dX12_open_84 : decode cX12_open 84 = .ok (.ifCond .ne 6, 3) := by decide +kernel
theorem dX12_open_87 : decode cX12_open 87 = .ok (.bipush (-3), 2) := by decide +kernel
theorem dX12_open_89 : decode cX12_open 89 = .ok (.ireturn, 1) := by decide +kernel
theorem dX12_open_90 : decode cX12_open 90 = .ok (.iinc 2 1, 3) := by decide +kernel
theorem dX12_open_93 : decode cX12_open 93 = .ok (.goto (-46), 3) := by decide +kernel
theorem dX12_open_96 : decode cX12_open 96 = .ok (.aload_n 0, 1) := by decide +kernel
theorem dX12_open_97 : decode cX12_open 97 = .ok (.invokevirtual 136, 3) := by decide +kernel
theorem dX12_open_100 : decode cX12_open 100 = .ok (.aload_n 0, 1) := by decide +kernel
theorem dX12_open_101 : decode cX12_open 101 = .ok (.aload_n 0, 1) := by decide +kernel
theorem dX12_open_102 : decode cX12_open 102 = .ok (.getfield 195, 3) := by decide +kernel
theorem dX12_open_105 : decode cX12_open 105 = .ok (.putfield 127, 3) := by decide +kernel
theorem dX12_open_108 : decode cX12_open 108 = .ok (.iconst 0, 1) := by decide +kernel
theorem dX12_open_109 : decode cX12_open 109 = .ok (.istore_n 2, 1) := by decide +kernel
theorem dX12_open_110 : decode cX12_open 110 = .ok (.iload_n 2, 1) := by decide +kernel
theorem dX12_open_111 : decode cX12_open 111 = .ok (.aload_n 0, 1) := by decide +kernel
theorem dX12_open_112 : decode cX12_open 112 = .ok (.getfield 195, 3) := by decide +kernel
theorem dX12_open_115 : decode cX12_open 115 = .ok (.if_icmp .ge 150, 3) := by decide +kernel
theorem dX12_open_118 : decode cX12_open 118 = .ok (.aload_n 0, 1) := by decide +kernel
theorem dX12_open_119 : decode cX12_open 119 = .ok (.getfield 19, 3) := by decide +kernel
theorem dX12_open_122 : decode cX12_open 122 = .ok (.iload_n 2, 1) := by decide +kernel
theorem dX12_open_123 : decode cX12_open 123 = .ok (.aload_n 0, 1) := by decide +kernel
theorem dX12_open_124 : decode cX12_open 124 = .ok (.getfield 58, 3) := by decide +kernel
theorem dX12_open_127 : decode cX12_open 127 = .ok (.iload_n 2, 1) := by decide +kernel
theorem dX12_open_128 : decode cX12_open 128 = .ok (.iaload, 1) := by decide +kernel
theorem dX12_open_129 : decode cX12_open 129 = .ok (.iastore, 1) := by decide +kernel
theorem dX12_open_130 : decode cX12_open 130 = .ok (.aload_n 0, 1) := by decide +kernel
theorem dX12_open_131 : decode cX12_open 131 = .ok (.getfield 22, 3) := by decide +kernel
theorem dX12_open_134 : decode cX12_open 134 = .ok (.iload_n 2, 1) := by decide +kernel
theorem dX12_open_135 : decode cX12_open 135 = .ok (.aload_n 0, 1) := by decide +kernel
theorem dX12_open_136 : decode cX12_open 136 = .ok (.getfield 61, 3) := by decide +kernel
theorem dX12_open_139 : decode cX12_open 139 = .ok (.iload_n 2, 1) := by decide +kernel
theorem dX12_open_140 : decode cX12_open 140 = .ok (.iaload, 1) := by decide +kernel
theorem dX12_open_141 : decode cX12_open 141 = .ok (.iastore, 1) := by decide +kernel
theorem dX12_open_142 : decode cX12_open 142 = .ok (.aload_n 0, 1) := by decide +kernel
theorem dX12_open_143 : decode cX12_open 143 = .ok (.getfield 25, 3) := by decide +kernel
theorem dX12_open_146 : decode cX12_open 146 = .ok (.iload_n 2, 1) := by decide +kernel
theorem dX12_open_147 : decode cX12_open 147 = .ok (.iconst 0, 1) := by decide +kernel
theorem dX12_open_148 : decode cX12_open 148 = .ok (.iastore, 1) := by decide +kernel
theorem dX12_open_149 : decode cX12_open 149 = .ok (.aload_n 0, 1) := by decide +kernel
theorem dX12_open_150 : decode cX12_open 150 = .ok (.getfield 28, 3) := by decide +kernel
theorem dX12_open_153 : decode cX12_open 153 = .ok (.iload_n 2, 1) := by decide +kernel
theorem dX12_open_154 : decode cX12_open 154 = .ok (.iconst 0, 1) := by decide +kernel
theorem dX12_open_155 : decode cX12_open 155 = .ok (.iastore, 1) := by decide +kernel
theorem dX12_open_156 : decode cX12_open 156 = .ok (.iconst 0, 1) := by decide +kernel
theorem dX12_open_157 : decode cX12_open 157 = .ok (.istore_n 3, 1) := by decide +kernel
theorem dX12_open_158 : decode cX12_open 158 = .ok (.iload_n 3, 1) := by decide +kernel
theorem dX12_open_159 : decode cX12_open 159 = .ok (.iconst 4, 1) := by decide +kernel
theorem dX12_open_160 : decode cX12_open 160 = .ok (.if_icmp .ge 99, 3) := by decide +kernel
theorem dX12_open_163 : decode cX12_open 163 = .ok (.iload_n 3, 1) := by decide +kernel
theorem dX12_open_164 : decode cX12_open 164 = .ok (.aload_n 0, 1) := by decide +kernel
theorem dX12_open_165 : decode cX12_open 165 = .ok (.getfield 64, 3) := by decide +kernel
theorem dX12_open_168 : decode cX12_open 168 = .ok (.iload_n 2, 1) := by decide +kernel
theorem dX12_open_169 : decode cX12_open 169 = .ok (.iaload, 1) := by decide +kernel
theorem dX12_open_170 : decode cX12_open 170 = .ok (.iadd, 1) := by decide +kernel
theorem dX12_open_171 : decode cX12_open 171 = .ok (.iconst 4, 1) := by decide +kernel
theorem dX12_open_172 : decode cX12_open 172 = .ok (.irem, 1) := by decide +kernel
theorem dX12_open_173 : decode cX12_open 173 = .ok (.istore 4, 2) := by decide +kernel
theorem dX12_open_175 : decode cX12_open 175 = .ok (.aload_n 0, 1) := by decide +kernel
theorem dX12_open_176 : decode cX12_open 176 = .ok (.getfield 16, 3) := by decide +kernel
theorem dX12_open_179 : decode cX12_open 179 = .ok (.iconst 4, 1) := by decide +kernel
theorem dX12_open_180 : decode cX12_open 180 = .ok (.iload_n 2, 1) := by decide +kernel
theorem dX12_open_181 : decode cX12_open 181 = .ok (.imul, 1) := by decide +kernel
theorem dX12_open_182 : decode cX12_open 182 = .ok (.iload_n 3, 1) := by decide +kernel
theorem dX12_open_183 : decode cX12_open 183 = .ok (.iadd, 1) := by decide +kernel
theorem dX12_open_184 : decode cX12_open 184 = .ok (.iaload, 1) := by decide +kernel
theorem dX12_open_185 : decode cX12_open 185 = .ok (.ifCond .ne 68, 3) := by decide +kernel
theorem dX12_open_188 : decode cX12_open 188 = .ok (.iload 4, 2) := by decide +kernel
theorem dX12_open_190 : decode cX12_open 190 = .ok (.iconst 2, 1) := by decide +kernel
theorem dX12_open_191 : decode cX12_open 191 = .ok (.if_icmp .ge 62, 3) := by decide +kernel
theorem dX12_open_194 : decode cX12_open 194 = .ok (.aload_n 0, 1) := by decide +kernel
theorem dX12_open_195 : decode cX12_open 195 = .ok (.iload_n 2, 1) := by decide +kernel
theorem dX12_open_196 : decode cX12_open 196 = .ok (.iload_n 3, 1) := by decide +kernel
theorem dX12_open_197 : decode cX12_open 197 = .ok (.invokevirtual 226, 3) := by decide +kernel
theorem dX12_open_200 : decode cX12_open 200 = .ok (.aload_n 0, 1) := by decide +kernel
theorem dX12_open_201 : decode cX12_open 201 = .ok (.getfield 25, 3) := by decide +kernel
theorem dX12_open_204 : decode cX12_open 204 = .ok (.iload_n 2, 1) := by decide +kernel
theorem dX12_open_205 : decode cX12_open 205 = .ok (.iload 4, 2) := by decide +kernel
theorem dX12_open_207 : decode cX12_open 207 = .ok (.ifCond .ne 12, 3) := by decide +kernel
theorem dX12_open_210 : decode cX12_open 210 = .ok (.iconst 2, 1) := by decide +kernel
theorem dX12_open_211 : decode cX12_open 211 = .ok (.aload_n 0, 1) := by decide +kernel
theorem dX12_open_212 : decode cX12_open 212 = .ok (.getfield 204, 3) := by decide +kernel
theorem dX12_open_215 : decode cX12_open 215 = .ok (.iadd, 1) := by decide +kernel
theorem dX12_open_216 : decode cX12_open 216 = .ok (.goto 9, 3) := by decide +kernel
theorem dX12_open_219 : decode cX12_open 219 = .ok (.aload_n 0, 1) := by decide +kernel
theorem dX12_open_220 : decode cX12_open 220 = .ok (.getfield 25, 3) := by decide +kernel
theorem dX12_open_223 : decode cX12_open 223 = .ok (.iload_n 2, 1) := by decide +kernel
theorem dX12_open_224 : decode cX12_open 224 = .ok (.iaload, 1) := by decide +kernel
theorem dX12_open_225 : decode cX12_open 225 = .ok (.iastore, 1) := by decide +kernel
theorem dX12_open_226 : decode cX12_open 226 = .ok (.aload_n 0, 1) := by decide +kernel
theorem dX12_open_227 : decode cX12_open 227 = .ok (.getfield 28, 3) := by decide +kernel
theorem dX12_open_230 : decode cX12_open 230 = .ok (.iload_n 2, 1) := by decide +kernel
theorem dX12_open_231 : decode cX12_open 231 = .ok (.iload 4, 2) := by decide +kernel
theorem dX12_open_233 : decode cX12_open 233 = .ok (.iconst 1, 1) := by decide +kernel
theorem dX12_open_234 : decode cX12_open 234 = .ok (.if_icmp .ne 12, 3) := by decide +kernel
theorem dX12_open_237 : decode cX12_open 237 = .ok (.iconst 2, 1) := by decide +kernel
theorem dX12_open_238 : decode cX12_open 238 = .ok (.aload_n 0, 1) := by decide +kernel
theorem dX12_open_239 : decode cX12_open 239 = .ok (.getfield 204, 3) := by decide +kernel
theorem dX12_open_242 : decode cX12_open 242 = .ok (.iadd, 1) := by decide +kernel
theorem dX12_open_243 : decode cX12_open 243 = .ok (.goto 9, 3) := by decide +kernel
theorem dX12_open_246 : decode cX12_open 246 = .ok (.aload_n 0, 1) := by decide +kernel
theorem dX12_open_247 : decode cX12_open 247 = .ok (.getfield 28, 3) := by decide +kernel
theorem dX12_open_250 : decode cX12_open 250 = .ok (.iload_n 2, 1) := by decide +kernel
theorem dX12_open_251 : decode cX12_open 251 = .ok (.iaload, 1) := by decide +kernel
theorem dX12_open_252 : decode cX12_open 252 = .ok (.iastore, 1) := by decide +kernel
theorem dX12_open_253 : decode cX12_open 253 = .ok (.iinc 3 1, 3) := by decide +kernel
theorem dX12_open_256 : decode cX12_open 256 = .ok (.goto (-98), 3) := by decide +kernel
theorem dX12_open_259 : decode cX12_open 259 = .ok (.iinc 2 1, 3) := by decide +kernel
theorem dX12_open_262 : decode cX12_open 262 = .ok (.goto (-152), 3) := by decide +kernel
theorem dX12_open_265 : decode cX12_open 265 = .ok (.aload_n 0, 1) := by decide +kernel
theorem dX12_open_266 : decode cX12_open 266 = .ok (.invokevirtual 242, 3) := by decide +kernel
theorem dX12_open_269 : decode cX12_open 269 = .ok (.aload_n 0, 1) := by decide +kernel
theorem dX12_open_270 : decode cX12_open 270 = .ok (.invokevirtual 245, 3) := by decide +kernel
theorem dX12_open_273 : decode cX12_open 273 = .ok (.ireturn, 1) := by decide +kernel
theorem dX12_isAhead_0 : decode cX12_isAhead 0 = .ok (.iload_n 2, 1) := by decide +kernel
theorem dX12_isAhead_1 : decode cX12_isAhead 1 = .ok (.aload_n 0, 1) := by decide +kernel
theorem dX12_isAhead_2 : decode cX12_isAhead 2 = .ok (.getfield 22, 3) := by decide +kernel
theorem dX12_isAhead_5 : decode cX12_isAhead 5 = .ok (.iload_n 3, 1) := by decide +kernel
theorem dX12_isAhead_6 : decode cX12_isAhead 6 = .ok (.iaload, 1) := by decide +kernel
theorem dX12_isAhead_7 : decode cX12_isAhead 7 = .ok (.if_icmp .eq 21, 3) := by decide +kernel
theorem dX12_isAhead_10 : decode cX12_isAhead 10 = .ok (.iload_n 2, 1) := by decide +kernel
theorem dX12_isAhead_11 : decode cX12_isAhead 11 = .ok (.aload_n 0, 1) := by decide +kernel
theorem dX12_isAhead_12 : decode cX12_isAhead 12 = .ok (.getfield 22, 3) := by decide +kernel
theorem dX12_isAhead_15 : decode cX12_isAhead 15 = .ok (.iload_n 3, 1) := by decide +kernel
theorem dX12_isAhead_16 : decode cX12_isAhead 16 = .ok (.iaload, 1) := by decide +kernel
theorem dX12_isAhead_17 : decode cX12_isAhead 17 = .ok (.if_icmp .ge 7, 3) := by decide +kernel
theorem dX12_isAhead_20 : decode cX12_isAhead 20 = .ok (.iconst 1, 1) := by decide +kernel
theorem dX12_isAhead_21 : decode cX12_isAhead 21 = .ok (.goto 22, 3) := by decide +kernel
theorem dX12_isAhead_24 : decode cX12_isAhead 24 = .ok (.iconst 0, 1) := by decide +kernel
theorem dX12_isAhead_25 : decode cX12_isAhead 25 = .ok (.goto 18, 3) := by decide +kernel
theorem dX12_isAhead_28 : decode cX12_isAhead 28 = .ok (.iload_n 1, 1) := by decide +kernel
theorem dX12_isAhead_29 : decode cX12_isAhead 29 = .ok (.aload_n 0, 1) := by decide +kernel
theorem dX12_isAhead_30 : decode cX12_isAhead 30 = .ok (.getfield 19, 3) := by decide +kernel
theorem dX12_isAhead_33 : decode cX12_isAhead 33 = .ok (.iload_n 3, 1) := by decide +kernel
theorem dX12_isAhead_34 : decode cX12_isAhead 34 = .ok (.iaload, 1) := by decide +kernel
theorem dX12_isAhead_35 : decode cX12_isAhead 35 = .ok (.if_icmp .ge 7, 3) := by decide +kernel
theorem dX12_isAhead_38 : decode cX12_isAhead 38 = .ok (.iconst 1, 1) := by decide +kernel
theorem dX12_isAhead_39 : decode cX12_isAhead 39 = .ok (.goto 4, 3) := by decide +kernel
theorem dX12_isAhead_42 : decode cX12_isAhead 42 = .ok (.iconst 0, 1) := by decide +kernel
theorem dX12_isAhead_43 : decode cX12_isAhead 43 = .ok (.ireturn, 1) := by decide +kernel
theorem dX12_place_0 : decode cX12_place 0 = .ok (.aload_n 0, 1) := by decide +kernel
theorem dX12_place_1 : decode cX12_place 1 = .ok (.getfield 19, 3) := by decide +kernel
theorem dX12_place_4 : decode cX12_place 4 = .ok (.iload_n 1, 1) := by decide +kernel
theorem dX12_place_5 : decode cX12_place 5 = .ok (.iload_n 2, 1) := by decide +kernel
theorem dX12_place_6 : decode cX12_place 6 = .ok (.iastore, 1) := by decide +kernel
theorem dX12_place_7 : decode cX12_place 7 = .ok (.aload_n 0, 1) := by decide +kernel
theorem dX12_place_8 : decode cX12_place 8 = .ok (.getfield 22, 3) := by decide +kernel
theorem dX12_place_11 : decode cX12_place 11 = .ok (.iload_n 1, 1) := by decide +kernel
theorem dX12_place_12 : decode cX12_place 12 = .ok (.iload_n 3, 1) := by decide +kernel
theorem dX12_place_13 : decode cX12_place 13 = .ok (.iastore, 1) := by decide +kernel
theorem dX12_place_14 : decode cX12_place 14 = .ok (.aload_n 0, 1) := by decide +kernel
theorem dX12_place_15 : decode cX12_place 15 = .ok (.getfield 25, 3) := by decide +kernel
theorem dX12_place_18 : decode cX12_place 18 = .ok (.iload_n 1, 1) := by decide +kernel
theorem dX12_place_19 : decode cX12_place 19 = .ok (.iload 4, 2) := by decide +kernel
theorem dX12_place_21 : decode cX12_place 21 = .ok (.iastore, 1) := by decide +kernel
theorem dX12_place_22 : decode cX12_place 22 = .ok (.aload_n 0, 1) := by decide +kernel
theorem dX12_place_23 : decode cX12_place 23 = .ok (.getfield 28, 3) := by decide +kernel
theorem dX12_place_26 : decode cX12_place 26 = .ok (.iload_n 1, 1) := by decide +kernel
theorem dX12_place_27 : decode cX12_place 27 = .ok (.iload 5, 2) := by decide +kernel
theorem dX12_place_29 : decode cX12_place 29 = .ok (.iastore, 1) := by decide +kernel
theorem dX12_place_30 : decode cX12_place 30 = .ok (.return_, 1) := by decide +kernel
theorem dX12_sort_0 : decode cX12_sort 0 = .ok (.iconst 1, 1) := by decide +kernel
theorem dX12_sort_1 : decode cX12_sort 1 = .ok (.istore_n 1, 1) := by decide +kernel
theorem dX12_sort_2 : decode cX12_sort 2 = .ok (.iload_n 1, 1) := by decide +kernel
theorem dX12_sort_3 : decode cX12_sort 3 = .ok (.aload_n 0, 1) := by decide +kernel
theorem dX12_sort_4 : decode cX12_sort 4 = .ok (.getfield 127, 3) := by decide +kernel
theorem dX12_sort_7 : decode cX12_sort 7 = .ok (.if_icmp .ge 120, 3) := by decide +kernel
theorem dX12_sort_10 : decode cX12_sort 10 = .ok (.aload_n 0, 1) := by decide +kernel
theorem dX12_sort_11 : decode cX12_sort 11 = .ok (.getfield 19, 3) := by decide +kernel
theorem dX12_sort_14 : decode cX12_sort 14 = .ok (.iload_n 1, 1) := by decide +kernel
theorem dX12_sort_15 : decode cX12_sort 15 = .ok (.iaload, 1) := by decide +kernel
theorem dX12_sort_16 : decode cX12_sort 16 = .ok (.istore_n 2, 1) := by decide +kernel
theorem dX12_sort_17 : decode cX12_sort 17 = .ok (.aload_n 0, 1) := by decide +kernel
theorem dX12_sort_18 : decode cX12_sort 18 = .ok (.getfield 22, 3) := by decide +kernel
theorem dX12_sort_21 : decode cX12_sort 21 = .ok (.iload_n 1, 1) := by decide +kernel
theorem dX12_sort_22 : decode cX12_sort 22 = .ok (.iaload, 1) := by decide +kernel
theorem dX12_sort_23 : decode cX12_sort 23 = .ok (.istore_n 3, 1) := by decide +kernel
theorem dX12_sort_24 : decode cX12_sort 24 = .ok (.aload_n 0, 1) := by decide +kernel
theorem dX12_sort_25 : decode cX12_sort 25 = .ok (.getfield 25, 3) := by decide +kernel
theorem dX12_sort_28 : decode cX12_sort 28 = .ok (.iload_n 1, 1) := by decide +kernel
theorem dX12_sort_29 : decode cX12_sort 29 = .ok (.iaload, 1) := by decide +kernel
theorem dX12_sort_30 : decode cX12_sort 30 = .ok (.istore 4, 2) := by decide +kernel
theorem dX12_sort_32 : decode cX12_sort 32 = .ok (.aload_n 0, 1) := by decide +kernel
theorem dX12_sort_33 : decode cX12_sort 33 = .ok (.getfield 28, 3) := by decide +kernel
theorem dX12_sort_36 : decode cX12_sort 36 = .ok (.iload_n 1, 1) := by decide +kernel
theorem dX12_sort_37 : decode cX12_sort 37 = .ok (.iaload, 1) := by decide +kernel
theorem dX12_sort_38 : decode cX12_sort 38 = .ok (.istore 5, 2) := by decide +kernel
theorem dX12_sort_40 : decode cX12_sort 40 = .ok (.iload_n 1, 1) := by decide +kernel
theorem dX12_sort_41 : decode cX12_sort 41 = .ok (.istore 6, 2) := by decide +kernel
theorem dX12_sort_43 : decode cX12_sort 43 = .ok (.iload 6, 2) := by decide +kernel
theorem dX12_sort_45 : decode cX12_sort 45 = .ok (.ifCond .le 64, 3) := by decide +kernel
theorem dX12_sort_48 : decode cX12_sort 48 = .ok (.aload_n 0, 1) := by decide +kernel
theorem dX12_sort_49 : decode cX12_sort 49 = .ok (.iload_n 2, 1) := by decide +kernel
theorem dX12_sort_50 : decode cX12_sort 50 = .ok (.iload_n 3, 1) := by decide +kernel
theorem dX12_sort_51 : decode cX12_sort 51 = .ok (.iload 6, 2) := by decide +kernel
theorem dX12_sort_53 : decode cX12_sort 53 = .ok (.iconst 1, 1) := by decide +kernel
theorem dX12_sort_54 : decode cX12_sort 54 = .ok (.isub, 1) := by decide +kernel
theorem dX12_sort_55 : decode cX12_sort 55 = .ok (.invokevirtual 248, 3) := by decide +kernel
end
section
theorem dX12_sort_58 : decode cX12_sort 58 = .ok (.ifCond .eq 51, 3) := by decide +kernel
theorem dX12_sort_61 : decode cX12_sort 61 = .ok (.aload_n 0, 1) := by decide +kernel
theorem dX12_sort_62 : decode cX12_sort 62 = .ok (.iload 6, 2) := by decide +kernel
theorem dX12_sort_64 : decode cX12_sort 64 = .ok (.aload_n 0, 1) := by decide +kernel
theorem dX12_sort_65 : decode cX12_sort 65 = .ok (.getfield 19, 3) := by decide +kernel
theorem dX12_sort_68 : decode cX12_sort 68 = .ok (.iload 6, 2) := by decide +kernel
theorem dX12_sort_70 : decode cX12_sort 70 = .ok (.iconst 1, 1) := by decide +kernel
theorem dX12_sort_71 : decode cX12_sort 71 = .ok (.isub, 1) := by decide +kernel
theorem dX12_sort_72 : decode cX12_sort 72 = .ok (.iaload, 1) := by decide +kernel
theorem dX12_sort_73 : decode cX12_sort 73 = .ok (.aload_n 0, 1) := by decide +kernel
theorem dX12_sort_74 : decode cX12_sort 74 = .ok (.getfield 22, 3) := by decide +kernel
theorem dX12_sort_77 : decode cX12_sort 77 = .ok (.iload 6, 2) := by decide +kernel
theorem dX12_sort_79 : decode cX12_sort 79 = .ok (.iconst 1, 1) := by decide +kernel
theorem dX12_sort_80 : decode cX12_sort 80 = .ok (.isub, 1) := by decide +kernel
theorem dX12_sort_81 : decode cX12_sort 81 = .ok (.iaload, 1) := by decide +kernel
theorem dX12_sort_82 : decode cX12_sort 82 = .ok (.aload_n 0, 1) := by decide +kernel
theorem dX12_sort_83 : decode cX12_sort 83 = .ok (.getfield 25, 3) := by decide +kernel
theorem dX12_sort_86 : decode cX12_sort 86 = .ok (.iload 6, 2) := by decide +kernel
theorem dX12_sort_88 : decode cX12_sort 88 = .ok (.iconst 1, 1) := by decide +kernel
theorem dX12_sort_89 : decode cX12_sort 89 = .ok (.isub, 1) := by decide +kernel
theorem dX12_sort_90 : decode cX12_sort 90 = .ok (.iaload, 1) := by decide +kernel
theorem dX12_sort_91 : decode cX12_sort 91 = .ok (.aload_n 0, 1) := by decide +kernel
theorem dX12_sort_92 : decode cX12_sort 92 = .ok (.getfield 28, 3) := by decide +kernel
theorem dX12_sort_95 : decode cX12_sort 95 = .ok (.iload 6, 2) := by decide +kernel
theorem dX12_sort_97 : decode cX12_sort 97 = .ok (.iconst 1, 1) := by decide +kernel
theorem dX12_sort_98 : decode cX12_sort 98 = .ok (.isub, 1) := by decide +kernel
theorem dX12_sort_99 : decode cX12_sort 99 = .ok (.iaload, 1) := by decide +kernel
theorem dX12_sort_100 : decode cX12_sort 100 = .ok (.invokevirtual 251, 3) := by decide +kernel
theorem dX12_sort_103 : decode cX12_sort 103 = .ok (.iinc 6 (-1), 3) := by decide +kernel
theorem dX12_sort_106 : decode cX12_sort 106 = .ok (.goto (-63), 3) := by decide +kernel
theorem dX12_sort_109 : decode cX12_sort 109 = .ok (.aload_n 0, 1) := by decide +kernel
theorem dX12_sort_110 : decode cX12_sort 110 = .ok (.iload 6, 2) := by decide +kernel
theorem dX12_sort_112 : decode cX12_sort 112 = .ok (.iload_n 2, 1) := by decide +kernel
theorem dX12_sort_113 : decode cX12_sort 113 = .ok (.iload_n 3, 1) := by decide +kernel
theorem dX12_sort_114 : decode cX12_sort 114 = .ok (.iload 4, 2) := by decide +kernel
theorem dX12_sort_116 : decode cX12_sort 116 = .ok (.iload 5, 2) := by decide +kernel
theorem dX12_sort_118 : decode cX12_sort 118 = .ok (.invokevirtual 251, 3) := by decide +kernel
theorem dX12_sort_121 : decode cX12_sort 121 = .ok (.iinc 1 1, 3) := by decide +kernel
theorem dX12_sort_124 : decode cX12_sort 124 = .ok (.goto (-122), 3) := by decide +kernel
theorem dX12_sort_127 : decode cX12_sort 127 = .ok (.return_, 1) := by decide +kernel
theorem dX12_creases_0 : decode cX12_creases 0 = .ok (.iconst 0, 1) := by decide +kernel
theorem dX12_creases_1 : decode cX12_creases 1 = .ok (.istore_n 1, 1) := by decide +kernel
theorem dX12_creases_2 : decode cX12_creases 2 = .ok (.iconst 0, 1) := by decide +kernel
theorem dX12_creases_3 : decode cX12_creases 3 = .ok (.istore_n 2, 1) := by decide +kernel
theorem dX12_creases_4 : decode cX12_creases 4 = .ok (.iload_n 2, 1) := by decide +kernel
theorem dX12_creases_5 : decode cX12_creases 5 = .ok (.aload_n 0, 1) := by decide +kernel
theorem dX12_creases_6 : decode cX12_creases 6 = .ok (.getfield 127, 3) := by decide +kernel
theorem dX12_creases_9 : decode cX12_creases 9 = .ok (.if_icmp .ge 41, 3) := by decide +kernel
theorem dX12_creases_12 : decode cX12_creases 12 = .ok (.iload_n 1, 1) := by decide +kernel
theorem dX12_creases_13 : decode cX12_creases 13 = .ok (.aload_n 0, 1) := by decide +kernel
theorem dX12_creases_14 : decode cX12_creases 14 = .ok (.getfield 25, 3) := by decide +kernel
theorem dX12_creases_17 : decode cX12_creases 17 = .ok (.iload_n 2, 1) := by decide +kernel
theorem dX12_creases_18 : decode cX12_creases 18 = .ok (.iaload, 1) := by decide +kernel
theorem dX12_creases_19 : decode cX12_creases 19 = .ok (.ifCond .eq 7, 3) := by decide +kernel
theorem dX12_creases_22 : decode cX12_creases 22 = .ok (.iconst 1, 1) := by decide +kernel
theorem dX12_creases_23 : decode cX12_creases 23 = .ok (.goto 4, 3) := by decide +kernel
theorem dX12_creases_26 : decode cX12_creases 26 = .ok (.iconst 0, 1) := by decide +kernel
theorem dX12_creases_27 : decode cX12_creases 27 = .ok (.aload_n 0, 1) := by decide +kernel
theorem dX12_creases_28 : decode cX12_creases 28 = .ok (.getfield 28, 3) := by decide +kernel
theorem dX12_creases_31 : decode cX12_creases 31 = .ok (.iload_n 2, 1) := by decide +kernel
theorem dX12_creases_32 : decode cX12_creases 32 = .ok (.iaload, 1) := by decide +kernel
theorem dX12_creases_33 : decode cX12_creases 33 = .ok (.ifCond .eq 7, 3) := by decide +kernel
theorem dX12_creases_36 : decode cX12_creases 36 = .ok (.iconst 1, 1) := by decide +kernel
theorem dX12_creases_37 : decode cX12_creases 37 = .ok (.goto 4, 3) := by decide +kernel
theorem dX12_creases_40 : decode cX12_creases 40 = .ok (.iconst 0, 1) := by decide +kernel
theorem dX12_creases_41 : decode cX12_creases 41 = .ok (.iadd, 1) := by decide +kernel
theorem dX12_creases_42 : decode cX12_creases 42 = .ok (.iadd, 1) := by decide +kernel
theorem dX12_creases_43 : decode cX12_creases 43 = .ok (.istore_n 1, 1) := by decide +kernel
theorem dX12_creases_44 : decode cX12_creases 44 = .ok (.iinc 2 1, 3) := by decide +kernel
theorem dX12_creases_47 : decode cX12_creases 47 = .ok (.goto (-43), 3) := by decide +kernel
theorem dX12_creases_50 : decode cX12_creases 50 = .ok (.iload_n 1, 1) := by decide +kernel
theorem dX12_creases_51 : decode cX12_creases 51 = .ok (.ireturn, 1) := by decide +kernel
theorem dX12_spotAt_0 : decode cX12_spotAt 0 = .ok (.iconst 0, 1) := by decide +kernel
theorem dX12_spotAt_1 : decode cX12_spotAt 1 = .ok (.istore_n 3, 1) := by decide +kernel
theorem dX12_spotAt_2 : decode cX12_spotAt 2 = .ok (.iload_n 3, 1) := by decide +kernel
theorem dX12_spotAt_3 : decode cX12_spotAt 3 = .ok (.aload_n 0, 1) := by decide +kernel
theorem dX12_spotAt_4 : decode cX12_spotAt 4 = .ok (.getfield 127, 3) := by decide +kernel
theorem dX12_spotAt_7 : decode cX12_spotAt 7 = .ok (.if_icmp .ge 31, 3) := by decide +kernel
theorem dX12_spotAt_10 : decode cX12_spotAt 10 = .ok (.aload_n 0, 1) := by decide +kernel
theorem dX12_spotAt_11 : decode cX12_spotAt 11 = .ok (.getfield 19, 3) := by decide +kernel
theorem dX12_spotAt_14 : decode cX12_spotAt 14 = .ok (.iload_n 3, 1) := by decide +kernel
theorem dX12_spotAt_15 : decode cX12_spotAt 15 = .ok (.iaload, 1) := by decide +kernel
theorem dX12_spotAt_16 : decode cX12_spotAt 16 = .ok (.iload_n 1, 1) := by decide +kernel
theorem dX12_spotAt_17 : decode cX12_spotAt 17 = .ok (.if_icmp .ne 15, 3) := by decide +kernel
theorem dX12_spotAt_20 : decode cX12_spotAt 20 = .ok (.aload_n 0, 1) := by decide +kernel
theorem dX12_spotAt_21 : decode cX12_spotAt 21 = .ok (.getfield 22, 3) := by decide +kernel
theorem dX12_spotAt_24 : decode cX12_spotAt 24 = .ok (.iload_n 3, 1) := by decide +kernel
theorem dX12_spotAt_25 : decode cX12_spotAt 25 = .ok (.iaload, 1) := by decide +kernel
theorem dX12_spotAt_26 : decode cX12_spotAt 26 = .ok (.iload_n 2, 1) := by decide +kernel
theorem dX12_spotAt_27 : decode cX12_spotAt 27 = .ok (.if_icmp .ne 5, 3) := by decide +kernel
theorem dX12_spotAt_30 : decode cX12_spotAt 30 = .ok (.iload_n 3, 1) := by decide +kernel
theorem dX12_spotAt_31 : decode cX12_spotAt 31 = .ok (.ireturn, 1) := by decide +kernel
theorem dX12_spotAt_32 : decode cX12_spotAt 32 = .ok (.iinc 3 1, 3) := by decide +kernel
theorem dX12_spotAt_35 : decode cX12_spotAt 35 = .ok (.goto (-33), 3) := by decide +kernel
theorem dX12_spotAt_38 : decode cX12_spotAt 38 = .ok (.iconst (-1), 1) := by decide +kernel
theorem dX12_spotAt_39 : decode cX12_spotAt 39 = .ok (.ireturn, 1) := by decide +kernel
theorem dX12_neighbour_0 : decode cX12_neighbour 0 = .ok (.aload_n 0, 1) := by decide +kernel
theorem dX12_neighbour_1 : decode cX12_neighbour 1 = .ok (.aload_n 0, 1) := by decide +kernel
theorem dX12_neighbour_2 : decode cX12_neighbour 2 = .ok (.getfield 19, 3) := by decide +kernel
theorem dX12_neighbour_5 : decode cX12_neighbour 5 = .ok (.iload_n 1, 1) := by decide +kernel
theorem dX12_neighbour_6 : decode cX12_neighbour 6 = .ok (.iaload, 1) := by decide +kernel
theorem dX12_neighbour_7 : decode cX12_neighbour 7 = .ok (.iload_n 2, 1) := by decide +kernel
theorem dX12_neighbour_8 : decode cX12_neighbour 8 = .ok (.invokestatic 230, 3) := by decide +kernel
theorem dX12_neighbour_11 : decode cX12_neighbour 11 = .ok (.iadd, 1) := by decide +kernel
theorem dX12_neighbour_12 : decode cX12_neighbour 12 = .ok (.aload_n 0, 1) := by decide +kernel
theorem dX12_neighbour_13 : decode cX12_neighbour 13 = .ok (.getfield 22, 3) := by decide +kernel
theorem dX12_neighbour_16 : decode cX12_neighbour 16 = .ok (.iload_n 1, 1) := by decide +kernel
theorem dX12_neighbour_17 : decode cX12_neighbour 17 = .ok (.iaload, 1) := by decide +kernel
theorem dX12_neighbour_18 : decode cX12_neighbour 18 = .ok (.iload_n 2, 1) := by decide +kernel
theorem dX12_neighbour_19 : decode cX12_neighbour 19 = .ok (.invokestatic 233, 3) := by decide +kernel
theorem dX12_neighbour_22 : decode cX12_neighbour 22 = .ok (.iadd, 1) := by decide +kernel
theorem dX12_neighbour_23 : decode cX12_neighbour 23 = .ok (.invokevirtual 255, 3) := by decide +kernel
theorem dX12_neighbour_26 : decode cX12_neighbour 26 = .ok (.ireturn, 1) := by decide +kernel
theorem dX12_creaseOf_0 : decode cX12_creaseOf 0 = .ok (.iload_n 2, 1) := by decide +kernel
theorem dX12_creaseOf_1 : decode cX12_creaseOf 1 = .ok (.iconst 2, 1) := by decide +kernel
theorem dX12_creaseOf_2 : decode cX12_creaseOf 2 = .ok (.if_icmp .ge 23, 3) := by decide +kernel
theorem dX12_creaseOf_5 : decode cX12_creaseOf 5 = .ok (.iload_n 2, 1) := by decide +kernel
theorem dX12_creaseOf_6 : decode cX12_creaseOf 6 = .ok (.ifCond .ne 12, 3) := by decide +kernel
theorem dX12_creaseOf_9 : decode cX12_creaseOf 9 = .ok (.aload_n 0, 1) := by decide +kernel
theorem dX12_creaseOf_10 : decode cX12_creaseOf 10 = .ok (.getfield 25, 3) := by decide +kernel
theorem dX12_creaseOf_13 : decode cX12_creaseOf 13 = .ok (.iload_n 1, 1) := by decide +kernel
theorem dX12_creaseOf_14 : decode cX12_creaseOf 14 = .ok (.iaload, 1) := by decide +kernel
theorem dX12_creaseOf_15 : decode cX12_creaseOf 15 = .ok (.goto 9, 3) := by decide +kernel
theorem dX12_creaseOf_18 : decode cX12_creaseOf 18 = .ok (.aload_n 0, 1) := by decide +kernel
theorem dX12_creaseOf_19 : decode cX12_creaseOf 19 = .ok (.getfield 28, 3) := by decide +kernel
theorem dX12_creaseOf_22 : decode cX12_creaseOf 22 = .ok (.iload_n 1, 1) := by decide +kernel
theorem dX12_creaseOf_23 : decode cX12_creaseOf 23 = .ok (.iaload, 1) := by decide +kernel
theorem dX12_creaseOf_24 : decode cX12_creaseOf 24 = .ok (.ireturn, 1) := by decide +kernel
theorem dX12_creaseOf_25 : decode cX12_creaseOf 25 = .ok (.aload_n 0, 1) := by decide +kernel
theorem dX12_creaseOf_26 : decode cX12_creaseOf 26 = .ok (.iload_n 1, 1) := by decide +kernel
theorem dX12_creaseOf_27 : decode cX12_creaseOf 27 = .ok (.iload_n 2, 1) := by decide +kernel
theorem dX12_creaseOf_28 : decode cX12_creaseOf 28 = .ok (.invokevirtual 258, 3) := by decide +kernel
theorem dX12_creaseOf_31 : decode cX12_creaseOf 31 = .ok (.istore_n 3, 1) := by decide +kernel
theorem dX12_creaseOf_32 : decode cX12_creaseOf 32 = .ok (.iload_n 3, 1) := by decide +kernel
theorem dX12_creaseOf_33 : decode cX12_creaseOf 33 = .ok (.iconst (-1), 1) := by decide +kernel
theorem dX12_creaseOf_34 : decode cX12_creaseOf 34 = .ok (.if_icmp .ne 7, 3) := by decide +kernel
theorem dX12_creaseOf_37 : decode cX12_creaseOf 37 = .ok (.iconst 0, 1) := by decide +kernel
theorem dX12_creaseOf_38 : decode cX12_creaseOf 38 = .ok (.goto 23, 3) := by decide +kernel
theorem dX12_creaseOf_41 : decode cX12_creaseOf 41 = .ok (.iload_n 2, 1) := by decide +kernel
theorem dX12_creaseOf_42 : decode cX12_creaseOf 42 = .ok (.iconst 2, 1) := by decide +kernel
theorem dX12_creaseOf_43 : decode cX12_creaseOf 43 = .ok (.if_icmp .ne 12, 3) := by decide +kernel
theorem dX12_creaseOf_46 : decode cX12_creaseOf 46 = .ok (.aload_n 0, 1) := by decide +kernel
theorem dX12_creaseOf_47 : decode cX12_creaseOf 47 = .ok (.getfield 25, 3) := by decide +kernel
theorem dX12_creaseOf_50 : decode cX12_creaseOf 50 = .ok (.iload_n 3, 1) := by decide +kernel
theorem dX12_creaseOf_51 : decode cX12_creaseOf 51 = .ok (.iaload, 1) := by decide +kernel
theorem dX12_creaseOf_52 : decode cX12_creaseOf 52 = .ok (.goto 9, 3) := by decide +kernel
theorem dX12_creaseOf_55 : decode cX12_creaseOf 55 = .ok (.aload_n 0, 1) := by decide +kernel
theorem dX12_creaseOf_56 : decode cX12_creaseOf 56 = .ok (.getfield 28, 3) := by decide +kernel
theorem dX12_creaseOf_59 : decode cX12_creaseOf 59 = .ok (.iload_n 3, 1) := by decide +kernel
theorem dX12_creaseOf_60 : decode cX12_creaseOf 60 = .ok (.iaload, 1) := by decide +kernel
theorem dX12_creaseOf_61 : decode cX12_creaseOf 61 = .ok (.ireturn, 1) := by decide +kernel
theorem dX12_setCrease_0 : decode cX12_setCrease 0 = .ok (.iload_n 2, 1) := by decide +kernel
theorem dX12_setCrease_1 : decode cX12_setCrease 1 = .ok (.iconst 2, 1) := by decide +kernel
theorem dX12_setCrease_2 : decode cX12_setCrease 2 = .ok (.if_icmp .ge 7, 3) := by decide +kernel
theorem dX12_setCrease_5 : decode cX12_setCrease 5 = .ok (.iload_n 1, 1) := by decide +kernel
theorem dX12_setCrease_6 : decode cX12_setCrease 6 = .ok (.goto 9, 3) := by decide +kernel
theorem dX12_setCrease_9 : decode cX12_setCrease 9 = .ok (.aload_n 0, 1) := by decide +kernel
theorem dX12_setCrease_10 : decode cX12_setCrease 10 = .ok (.iload_n 1, 1) := by decide +kernel
theorem dX12_setCrease_11 : decode cX12_setCrease 11 = .ok (.iload_n 2, 1) := by decide +kernel
theorem dX12_setCrease_12 : decode cX12_setCrease 12 = .ok (.invokevirtual 258, 3) := by decide +kernel
theorem dX12_setCrease_15 : decode cX12_setCrease 15 = .ok (.istore 4, 2) := by decide +kernel
theorem dX12_setCrease_17 : decode cX12_setCrease 17 = .ok (.iload 4, 2) := by decide +kernel
theorem dX12_setCrease_19 : decode cX12_setCrease 19 = .ok (.iconst (-1), 1) := by decide +kernel
theorem dX12_setCrease_20 : decode cX12_setCrease 20 = .ok (.if_icmp .eq 17, 3) := by decide +kernel
theorem dX12_setCrease_23 : decode cX12_setCrease 23 = .ok (.iload_n 2, 1) := by decide +kernel
theorem dX12_setCrease_24 : decode cX12_setCrease 24 = .ok (.iconst 2, 1) := by decide +kernel
theorem dX12_setCrease_25 : decode cX12_setCrease 25 = .ok (.irem, 1) := by decide +kernel
theorem dX12_setCrease_26 : decode cX12_setCrease 26 = .ok (.ifCond .ne 11, 3) := by decide +kernel
theorem dX12_setCrease_29 : decode cX12_setCrease 29 = .ok (.aload_n 0, 1) := by decide +kernel
theorem dX12_setCrease_30 : decode cX12_setCrease 30 = .ok (.getfield 25, 3) := by decide +kernel
theorem dX12_setCrease_33 : decode cX12_setCrease 33 = .ok (.iload 4, 2) := by decide +kernel
theorem dX12_setCrease_35 : decode cX12_setCrease 35 = .ok (.iload_n 3, 1) := by decide +kernel
theorem dX12_setCrease_36 : decode cX12_setCrease 36 = .ok (.iastore, 1) := by decide +kernel
theorem dX12_setCrease_37 : decode cX12_setCrease 37 = .ok (.iload 4, 2) := by decide +kernel
theorem dX12_setCrease_39 : decode cX12_setCrease 39 = .ok (.iconst (-1), 1) := by decide +kernel
theorem dX12_setCrease_40 : decode cX12_setCrease 40 = .ok (.if_icmp .eq 18, 3) := by decide +kernel
theorem dX12_setCrease_43 : decode cX12_setCrease 43 = .ok (.iload_n 2, 1) := by decide +kernel
theorem dX12_setCrease_44 : decode cX12_setCrease 44 = .ok (.iconst 2, 1) := by decide +kernel
theorem dX12_setCrease_45 : decode cX12_setCrease 45 = .ok (.irem, 1) := by decide +kernel
theorem dX12_setCrease_46 : decode cX12_setCrease 46 = .ok (.iconst 1, 1) := by decide +kernel
theorem dX12_setCrease_47 : decode cX12_setCrease 47 = .ok (.if_icmp .ne 11, 3) := by decide +kernel
theorem dX12_setCrease_50 : decode cX12_setCrease 50 = .ok (.aload_n 0, 1) := by decide +kernel
theorem dX12_setCrease_51 : decode cX12_setCrease 51 = .ok (.getfield 28, 3) := by decide +kernel
theorem dX12_setCrease_54 : decode cX12_setCrease 54 = .ok (.iload 4, 2) := by decide +kernel
theorem dX12_setCrease_56 : decode cX12_setCrease 56 = .ok (.iload_n 3, 1) := by decide +kernel
theorem dX12_setCrease_57 : decode cX12_setCrease 57 = .ok (.iastore, 1) := by decide +kernel
theorem dX12_setCrease_58 : decode cX12_setCrease 58 = .ok (.return_, 1) := by decide +kernel
theorem dX12_isPlace_0 : decode cX12_isPlace 0 = .ok (.iload_n 0, 1) := by decide +kernel
theorem dX12_isPlace_1 : decode cX12_isPlace 1 = .ok (.bipush (-30), 2) := by decide +kernel
theorem dX12_isPlace_3 : decode cX12_isPlace 3 = .ok (.bipush 30, 2) := by decide +kernel
theorem dX12_isPlace_5 : decode cX12_isPlace 5 = .ok (.invokestatic 139, 3) := by decide +kernel
theorem dX12_isPlace_8 : decode cX12_isPlace 8 = .ok (.ifCond .eq 18, 3) := by decide +kernel
theorem dX12_isPlace_11 : decode cX12_isPlace 11 = .ok (.iload_n 1, 1) := by decide +kernel
theorem dX12_isPlace_12 : decode cX12_isPlace 12 = .ok (.bipush (-30), 2) := by decide +kernel
theorem dX12_isPlace_14 : decode cX12_isPlace 14 = .ok (.bipush 30, 2) := by decide +kernel
theorem dX12_isPlace_16 : decode cX12_isPlace 16 = .ok (.invokestatic 139, 3) := by decide +kernel
theorem dX12_isPlace_19 : decode cX12_isPlace 19 = .ok (.ifCond .eq 7, 3) := by decide +kernel
theorem dX12_isPlace_22 : decode cX12_isPlace 22 = .ok (.iconst 1, 1) := by decide +kernel
theorem dX12_isPlace_23 : decode cX12_isPlace 23 = .ok (.goto 4, 3) := by decide +kernel
theorem dX12_isPlace_26 : decode cX12_isPlace 26 = .ok (.iconst 0, 1) := by decide +kernel
theorem dX12_isPlace_27 : decode cX12_isPlace 27 = .ok (.ireturn, 1) := by decide +kernel
theorem dX12_spot_0 : decode cX12_spot 0 = .ok (.aload_n 0, 1) := by decide +kernel
theorem dX12_spot_1 : decode cX12_spot 1 = .ok (.iconst 0, 1) := by decide +kernel
theorem dX12_spot_2 : decode cX12_spot 2 = .ok (.putfield 113, 3) := by decide +kernel
theorem dX12_spot_5 : decode cX12_spot 5 = .ok (.iload_n 1, 1) := by decide +kernel
theorem dX12_spot_6 : decode cX12_spot 6 = .ok (.iload_n 2, 1) := by decide +kernel
theorem dX12_spot_7 : decode cX12_spot 7 = .ok (.invokestatic 261, 3) := by decide +kernel
theorem dX12_spot_10 : decode cX12_spot 10 = .ok (.ifCond .eq 12, 3) := by decide +kernel
theorem dX12_spot_13 : decode cX12_spot 13 = .ok (.iload_n 3, 1) := by decide +kernel
theorem dX12_spot_14 : decode cX12_spot 14 = .ok (.iconst 0, 1) := by decide +kernel
theorem dX12_spot_15 : decode cX12_spot 15 = .ok (.iconst 1, 1) := by decide +kernel
theorem dX12_spot_16 : decode cX12_spot 16 = .ok (.invokestatic 139, 3) := by decide +kernel
theorem dX12_spot_19 : decode cX12_spot 19 = .ok (.ifCond .ne 6, 3) := by decide +kernel
theorem dX12_spot_22 : decode cX12_spot 22 = .ok (.bipush (-3), 2) := by decide +kernel
theorem dX12_spot_24 : decode cX12_spot 24 = .ok (.ireturn, 1) := by decide +kernel
theorem dX12_spot_25 : decode cX12_spot 25 = .ok (.aload_n 0, 1) := by decide +kernel
theorem dX12_spot_26 : decode cX12_spot 26 = .ok (.iload_n 1, 1) := by decide +kernel
theorem dX12_spot_27 : decode cX12_spot 27 = .ok (.iload_n 2, 1) := by decide +kernel
theorem dX12_spot_28 : decode cX12_spot 28 = .ok (.invokevirtual 255, 3) := by decide +kernel
theorem dX12_spot_31 : decode cX12_spot 31 = .ok (.istore 4, 2) := by decide +kernel
theorem dX12_spot_33 : decode cX12_spot 33 = .ok (.iload 4, 2) := by decide +kernel
theorem dX12_spot_35 : decode cX12_spot 35 = .ok (.iconst (-1), 1) := by decide +kernel
theorem dX12_spot_36 : decode cX12_spot 36 = .ok (.if_icmp .ne 20, 3) := by decide +kernel
theorem dX12_spot_39 : decode cX12_spot 39 = .ok (.iload_n 3, 1) := by decide +kernel
theorem dX12_spot_40 : decode cX12_spot 40 = .ok (.iconst 1, 1) := by decide +kernel
theorem dX12_spot_41 : decode cX12_spot 41 = .ok (.if_icmp .ne 15, 3) := by decide +kernel
theorem dX12_spot_44 : decode cX12_spot 44 = .ok (.aload_n 0, 1) := by decide +kernel
theorem dX12_spot_45 : decode cX12_spot 45 = .ok (.getfield 127, 3) := by decide +kernel
theorem dX12_spot_48 : decode cX12_spot 48 = .ok (.bipush 60, 2) := by decide +kernel
theorem dX12_spot_50 : decode cX12_spot 50 = .ok (.if_icmp .ne 6, 3) := by decide +kernel
theorem dX12_spot_53 : decode cX12_spot 53 = .ok (.bipush (-5), 2) := by decide +kernel
theorem dX12_spot_55 : decode cX12_spot 55 = .ok (.ireturn, 1) := by decide +kernel
theorem dX12_spot_56 : decode cX12_spot 56 = .ok (.aload_n 0, 1) := by decide +kernel
theorem dX12_spot_57 : decode cX12_spot 57 = .ok (.invokevirtual 136, 3) := by decide +kernel
theorem dX12_spot_60 : decode cX12_spot 60 = .ok (.iload 4, 2) := by decide +kernel
theorem dX12_spot_62 : decode cX12_spot 62 = .ok (.iconst (-1), 1) := by decide +kernel
theorem dX12_spot_63 : decode cX12_spot 63 = .ok (.if_icmp .ne 34, 3) := by decide +kernel
theorem dX12_spot_66 : decode cX12_spot 66 = .ok (.iload_n 3, 1) := by decide +kernel
theorem dX12_spot_67 : decode cX12_spot 67 = .ok (.iconst 1, 1) := by decide +kernel
theorem dX12_spot_68 : decode cX12_spot 68 = .ok (.if_icmp .ne 29, 3) := by decide +kernel
theorem dX12_spot_71 : decode cX12_spot 71 = .ok (.aload_n 0, 1) := by decide +kernel
theorem dX12_spot_72 : decode cX12_spot 72 = .ok (.aload_n 0, 1) := by decide +kernel
theorem dX12_spot_73 : decode cX12_spot 73 = .ok (.getfield 127, 3) := by decide +kernel
theorem dX12_spot_76 : decode cX12_spot 76 = .ok (.iload_n 1, 1) := by decide +kernel
theorem dX12_spot_77 : decode cX12_spot 77 = .ok (.iload_n 2, 1) := by decide +kernel
theorem dX12_spot_78 : decode cX12_spot 78 = .ok (.iconst 0, 1) := by decide +kernel
theorem dX12_spot_79 : decode cX12_spot 79 = .ok (.iconst 0, 1) := by decide +kernel
theorem dX12_spot_80 : decode cX12_spot 80 = .ok (.invokevirtual 251, 3) := by decide +kernel
theorem dX12_spot_83 : decode cX12_spot 83 = .ok (.aload_n 0, 1) := by decide +kernel
theorem dX12_spot_84 : decode cX12_spot 84 = .ok (.dup, 1) := by decide +kernel
theorem dX12_spot_85 : decode cX12_spot 85 = .ok (.getfield 127, 3) := by decide +kernel
theorem dX12_spot_88 : decode cX12_spot 88 = .ok (.iconst 1, 1) := by decide +kernel
theorem dX12_spot_89 : decode cX12_spot 89 = .ok (.iadd, 1) := by decide +kernel
theorem dX12_spot_90 : decode cX12_spot 90 = .ok (.putfield 127, 3) := by decide +kernel
theorem dX12_spot_93 : decode cX12_spot 93 = .ok (.aload_n 0, 1) := by decide +kernel
theorem dX12_spot_94 : decode cX12_spot 94 = .ok (.invokevirtual 242, 3) := by decide +kernel
theorem dX12_spot_97 : decode cX12_spot 97 = .ok (.iload 4, 2) := by decide +kernel
theorem dX12_spot_99 : decode cX12_spot 99 = .ok (.iconst (-1), 1) := by decide +kernel
theorem dX12_spot_100 : decode cX12_spot 100 = .ok (.if_icmp .eq 102, 3) := by decide +kernel
theorem dX12_spot_103 : decode cX12_spot 103 = .ok (.iload_n 3, 1) := by decide +kernel
theorem dX12_spot_104 : decode cX12_spot 104 = .ok (.ifCond .ne 98, 3) := by decide +kernel
theorem dX12_spot_107 : decode cX12_spot 107 = .ok (.iconst 0, 1) := by decide +kernel
theorem dX12_spot_108 : decode cX12_spot 108 = .ok (.istore 5, 2) := by decide +kernel
theorem dX12_spot_110 : decode cX12_spot 110 = .ok (.iload 5, 2) := by decide +kernel
theorem dX12_spot_112 : decode cX12_spot 112 = .ok (.iconst 4, 1) := by decide +kernel
theorem dX12_spot_113 : decode cX12_spot 113 = .ok (.if_icmp .ge 18, 3) := by decide +kernel
theorem dX12_spot_116 : decode cX12_spot 116 = .ok (.aload_n 0, 1) := by decide +kernel
theorem dX12_spot_117 : decode cX12_spot 117 = .ok (.iload 4, 2) := by decide +kernel
theorem dX12_spot_119 : decode cX12_spot 119 = .ok (.iload 5, 2) := by decide +kernel
theorem dX12_spot_121 : decode cX12_spot 121 = .ok (.iconst 0, 1) := by decide +kernel
theorem dX12_spot_122 : decode cX12_spot 122 = .ok (.invokevirtual 265, 3) := by decide +kernel
theorem dX12_spot_125 : decode cX12_spot 125 = .ok (.iinc 5 1, 3) := by decide +kernel
theorem dX12_spot_128 : decode cX12_spot 128 = .ok (.goto (-18), 3) := by decide +kernel
theorem dX12_spot_131 : decode cX12_spot 131 = .ok (.aload_n 0, 1) := by decide +kernel
theorem dX12_spot_132 : decode cX12_spot 132 = .ok (.dup, 1) := by decide +kernel
theorem dX12_spot_133 : decode cX12_spot 133 = .ok (.getfield 127, 3) := by decide +kernel
theorem dX12_spot_136 : decode cX12_spot 136 = .ok (.iconst 1, 1) := by decide +kernel
theorem dX12_spot_137 : decode cX12_spot 137 = .ok (.isub, 1) := by decide +kernel
theorem dX12_spot_138 : decode cX12_spot 138 = .ok (.putfield 127, 3) := by decide +kernel
theorem dX12_spot_141 : decode cX12_spot 141 = .ok (.iload 4, 2) := by decide +kernel
theorem dX12_spot_143 : decode cX12_spot 143 = .ok (.istore 5, 2) := by decide +kernel
theorem dX12_spot_145 : decode cX12_spot 145 = .ok (.iload 5, 2) := by decide +kernel
theorem dX12_spot_147 : decode cX12_spot 147 = .ok (.aload_n 0, 1) := by decide +kernel
theorem dX12_spot_148 : decode cX12_spot 148 = .ok (.getfield 127, 3) := by decide +kernel
theorem dX12_spot_151 : decode cX12_spot 151 = .ok (.if_icmp .ge 51, 3) := by decide +kernel
theorem dX12_spot_154 : decode cX12_spot 154 = .ok (.aload_n 0, 1) := by decide +kernel
theorem dX12_spot_155 : decode cX12_spot 155 = .ok (.iload 5, 2) := by decide +kernel
theorem dX12_spot_157 : decode cX12_spot 157 = .ok (.aload_n 0, 1) := by decide +kernel
theorem dX12_spot_158 : decode cX12_spot 158 = .ok (.getfield 19, 3) := by decide +kernel
theorem dX12_spot_161 : decode cX12_spot 161 = .ok (.iload 5, 2) := by decide +kernel
theorem dX12_spot_163 : decode cX12_spot 163 = .ok (.iconst 1, 1) := by decide +kernel
theorem dX12_spot_164 : decode cX12_spot 164 = .ok (.iadd, 1) := by decide +kernel
theorem dX12_spot_165 : decode cX12_spot 165 = .ok (.iaload, 1) := by decide +kernel
theorem dX12_spot_166 : decode cX12_spot 166 = .ok (.aload_n 0, 1) := by decide +kernel
theorem dX12_spot_167 : decode cX12_spot 167 = .ok (.getfield 22, 3) := by decide +kernel
theorem dX12_spot_170 : decode cX12_spot 170 = .ok (.iload 5, 2) := by decide +kernel
theorem dX12_spot_172 : decode cX12_spot 172 = .ok (.iconst 1, 1) := by decide +kernel
theorem dX12_spot_173 : decode cX12_spot 173 = .ok (.iadd, 1) := by decide +kernel
theorem dX12_spot_174 : decode cX12_spot 174 = .ok (.iaload, 1) := by decide +kernel
theorem dX12_spot_175 : decode cX12_spot 175 = .ok (.aload_n 0, 1) := by decide +kernel
theorem dX12_spot_176 : decode cX12_spot 176 = .ok (.getfield 25, 3) := by decide +kernel
theorem dX12_spot_179 : decode cX12_spot 179 = .ok (.iload 5, 2) := by decide +kernel
theorem dX12_spot_181 : decode cX12_spot 181 = .ok (.iconst 1, 1) := by decide +kernel
theorem dX12_spot_182 : decode cX12_spot 182 = .ok (.iadd, 1) := by decide +kernel
theorem dX12_spot_183 : decode cX12_spot 183 = .ok (.iaload, 1) := by decide +kernel
theorem dX12_spot_184 : decode cX12_spot 184 = .ok (.aload_n 0, 1) := by decide +kernel
theorem dX12_spot_185 : decode cX12_spot 185 = .ok (.getfield 28, 3) := by decide +kernel
theorem dX12_spot_188 : decode cX12_spot 188 = .ok (.iload 5, 2) := by decide +kernel
theorem dX12_spot_190 : decode cX12_spot 190 = .ok (.iconst 1, 1) := by decide +kernel
theorem dX12_spot_191 : decode cX12_spot 191 = .ok (.iadd, 1) := by decide +kernel
theorem dX12_spot_192 : decode cX12_spot 192 = .ok (.iaload, 1) := by decide +kernel
theorem dX12_spot_193 : decode cX12_spot 193 = .ok (.invokevirtual 251, 3) := by decide +kernel
theorem dX12_spot_196 : decode cX12_spot 196 = .ok (.iinc 5 1, 3) := by decide +kernel
theorem dX12_spot_199 : decode cX12_spot 199 = .ok (.goto (-54), 3) := by decide +kernel
theorem dX12_spot_202 : decode cX12_spot 202 = .ok (.iload 4, 2) := by decide +kernel
theorem dX12_spot_204 : decode cX12_spot 204 = .ok (.iconst (-1), 1) := by decide +kernel
theorem dX12_spot_205 : decode cX12_spot 205 = .ok (.if_icmp .ne 7, 3) := by decide +kernel
theorem dX12_spot_208 : decode cX12_spot 208 = .ok (.iconst 0, 1) := by decide +kernel
theorem dX12_spot_209 : decode cX12_spot 209 = .ok (.goto 4, 3) := by decide +kernel
theorem dX12_spot_212 : decode cX12_spot 212 = .ok (.iconst 1, 1) := by decide +kernel
theorem dX12_spot_213 : decode cX12_spot 213 = .ok (.ireturn, 1) := by decide +kernel
theorem dX12_toldOf_0 : decode cX12_toldOf 0 = .ok (.iload_n 0, 1) := by decide +kernel
theorem dX12_toldOf_1 : decode cX12_toldOf 1 = .ok (.ifCond .ne 7, 3) := by decide +kernel
theorem dX12_toldOf_4 : decode cX12_toldOf 4 = .ok (.iconst 5, 1) := by decide +kernel
theorem dX12_toldOf_5 : decode cX12_toldOf 5 = .ok (.goto 16, 3) := by decide +kernel
theorem dX12_toldOf_8 : decode cX12_toldOf 8 = .ok (.iload_n 0, 1) := by decide +kernel
theorem dX12_toldOf_9 : decode cX12_toldOf 9 = .ok (.iconst 1, 1) := by decide +kernel
theorem dX12_toldOf_10 : decode cX12_toldOf 10 = .ok (.if_icmp .ne 8, 3) := by decide +kernel
theorem dX12_toldOf_13 : decode cX12_toldOf 13 = .ok (.bipush 9, 2) := by decide +kernel
theorem dX12_toldOf_15 : decode cX12_toldOf 15 = .ok (.goto 6, 3) := by decide +kernel
theorem dX12_toldOf_18 : decode cX12_toldOf 18 = .ok (.iload_n 0, 1) := by decide +kernel
theorem dX12_toldOf_19 : decode cX12_toldOf 19 = .ok (.iconst 2, 1) := by decide +kernel
theorem dX12_toldOf_20 : decode cX12_toldOf 20 = .ok (.isub, 1) := by decide +kernel
theorem dX12_toldOf_21 : decode cX12_toldOf 21 = .ok (.ireturn, 1) := by decide +kernel
theorem dX12_crease_0 : decode cX12_crease 0 = .ok (.aload_n 0, 1) := by decide +kernel
theorem dX12_crease_1 : decode cX12_crease 1 = .ok (.iconst 0, 1) := by decide +kernel
theorem dX12_crease_2 : decode cX12_crease 2 = .ok (.putfield 113, 3) := by decide +kernel
theorem dX12_crease_5 : decode cX12_crease 5 = .ok (.iload_n 1, 1) := by decide +kernel
theorem dX12_crease_6 : decode cX12_crease 6 = .ok (.iload_n 2, 1) := by decide +kernel
theorem dX12_crease_7 : decode cX12_crease 7 = .ok (.invokestatic 261, 3) := by decide +kernel
theorem dX12_crease_10 : decode cX12_crease 10 = .ok (.ifCond .eq 36, 3) := by decide +kernel
theorem dX12_crease_13 : decode cX12_crease 13 = .ok (.iload_n 3, 1) := by decide +kernel
theorem dX12_crease_14 : decode cX12_crease 14 = .ok (.iconst 0, 1) := by decide +kernel
theorem dX12_crease_15 : decode cX12_crease 15 = .ok (.iconst 3, 1) := by decide +kernel
theorem dX12_crease_16 : decode cX12_crease 16 = .ok (.invokestatic 139, 3) := by decide +kernel
theorem dX12_crease_19 : decode cX12_crease 19 = .ok (.ifCond .eq 27, 3) := by decide +kernel
theorem dX12_crease_22 : decode cX12_crease 22 = .ok (.iload 4, 2) := by decide +kernel
theorem dX12_crease_24 : decode cX12_crease 24 = .ok (.ifCond .eq 25, 3) := by decide +kernel
theorem dX12_crease_27 : decode cX12_crease 27 = .ok (.iload 4, 2) := by decide +kernel
theorem dX12_crease_29 : decode cX12_crease 29 = .ok (.iconst 1, 1) := by decide +kernel
theorem dX12_crease_30 : decode cX12_crease 30 = .ok (.if_icmp .eq 19, 3) := by decide +kernel
theorem dX12_crease_33 : decode cX12_crease 33 = .ok (.iload 4, 2) := by decide +kernel
theorem dX12_crease_35 : decode cX12_crease 35 = .ok (.iconst 5, 1) := by decide +kernel
theorem dX12_crease_36 : decode cX12_crease 36 = .ok (.if_icmp .eq 13, 3) := by decide +kernel
theorem dX12_crease_39 : decode cX12_crease 39 = .ok (.iload 4, 2) := by decide +kernel
theorem dX12_crease_41 : decode cX12_crease 41 = .ok (.bipush 9, 2) := by decide +kernel
theorem dX12_crease_43 : decode cX12_crease 43 = .ok (.if_icmp .eq 6, 3) := by decide +kernel
theorem dX12_crease_46 : decode cX12_crease 46 = .ok (.bipush (-3), 2) := by decide +kernel
theorem dX12_crease_48 : decode cX12_crease 48 = .ok (.ireturn, 1) := by decide +kernel
theorem dX12_crease_49 : decode cX12_crease 49 = .ok (.aload_n 0, 1) := by decide +kernel
theorem dX12_crease_50 : decode cX12_crease 50 = .ok (.iload_n 1, 1) := by decide +kernel
theorem dX12_crease_51 : decode cX12_crease 51 = .ok (.iload_n 2, 1) := by decide +kernel
theorem dX12_crease_52 : decode cX12_crease 52 = .ok (.invokevirtual 255, 3) := by decide +kernel
theorem dX12_crease_55 : decode cX12_crease 55 = .ok (.istore 5, 2) := by decide +kernel
theorem dX12_crease_57 : decode cX12_crease 57 = .ok (.iload 5, 2) := by decide +kernel
theorem dX12_crease_59 : decode cX12_crease 59 = .ok (.iconst (-1), 1) := by decide +kernel
theorem dX12_crease_60 : decode cX12_crease 60 = .ok (.if_icmp .eq 14, 3) := by decide +kernel
theorem dX12_crease_63 : decode cX12_crease 63 = .ok (.aload_n 0, 1) := by decide +kernel
theorem dX12_crease_64 : decode cX12_crease 64 = .ok (.iload 5, 2) := by decide +kernel
theorem dX12_crease_66 : decode cX12_crease 66 = .ok (.iload_n 3, 1) := by decide +kernel
theorem dX12_crease_67 : decode cX12_crease 67 = .ok (.invokevirtual 258, 3) := by decide +kernel
theorem dX12_crease_70 : decode cX12_crease 70 = .ok (.iconst (-1), 1) := by decide +kernel
theorem dX12_crease_71 : decode cX12_crease 71 = .ok (.if_icmp .ne 6, 3) := by decide +kernel
theorem dX12_crease_74 : decode cX12_crease 74 = .ok (.bipush (-4), 2) := by decide +kernel
theorem dX12_crease_76 : decode cX12_crease 76 = .ok (.ireturn, 1) := by decide +kernel
theorem dX12_crease_77 : decode cX12_crease 77 = .ok (.aload_n 0, 1) := by decide +kernel
theorem dX12_crease_78 : decode cX12_crease 78 = .ok (.invokevirtual 136, 3) := by decide +kernel
theorem dX12_crease_81 : decode cX12_crease 81 = .ok (.aload_n 0, 1) := by decide +kernel
theorem dX12_crease_82 : decode cX12_crease 82 = .ok (.iload 5, 2) := by decide +kernel
theorem dX12_crease_84 : decode cX12_crease 84 = .ok (.iload_n 3, 1) := by decide +kernel
theorem dX12_crease_85 : decode cX12_crease 85 = .ok (.invokevirtual 269, 3) := by decide +kernel
theorem dX12_crease_88 : decode cX12_crease 88 = .ok (.invokestatic 272, 3) := by decide +kernel
theorem dX12_crease_91 : decode cX12_crease 91 = .ok (.istore 6, 2) := by decide +kernel
theorem dX12_crease_93 : decode cX12_crease 93 = .ok (.aload_n 0, 1) := by decide +kernel
theorem dX12_crease_94 : decode cX12_crease 94 = .ok (.iload 5, 2) := by decide +kernel
theorem dX12_crease_96 : decode cX12_crease 96 = .ok (.iload_n 3, 1) := by decide +kernel
theorem dX12_crease_97 : decode cX12_crease 97 = .ok (.iload 4, 2) := by decide +kernel
theorem dX12_crease_99 : decode cX12_crease 99 = .ok (.iconst 5, 1) := by decide +kernel
theorem dX12_crease_100 : decode cX12_crease 100 = .ok (.if_icmp .ne 7, 3) := by decide +kernel
theorem dX12_crease_103 : decode cX12_crease 103 = .ok (.iconst 0, 1) := by decide +kernel
theorem dX12_crease_104 : decode cX12_crease 104 = .ok (.goto 18, 3) := by decide +kernel
theorem dX12_crease_107 : decode cX12_crease 107 = .ok (.iload 4, 2) := by decide +kernel
theorem dX12_crease_109 : decode cX12_crease 109 = .ok (.bipush 9, 2) := by decide +kernel
theorem dX12_crease_111 : decode cX12_crease 111 = .ok (.if_icmp .ne 7, 3) := by decide +kernel
theorem dX12_crease_114 : decode cX12_crease 114 = .ok (.iconst 1, 1) := by decide +kernel
theorem dX12_crease_115 : decode cX12_crease 115 = .ok (.goto 7, 3) := by decide +kernel
theorem dX12_crease_118 : decode cX12_crease 118 = .ok (.iconst 2, 1) := by decide +kernel
theorem dX12_crease_119 : decode cX12_crease 119 = .ok (.iload 4, 2) := by decide +kernel
theorem dX12_crease_121 : decode cX12_crease 121 = .ok (.iadd, 1) := by decide +kernel
theorem dX12_crease_122 : decode cX12_crease 122 = .ok (.invokevirtual 265, 3) := by decide +kernel
theorem dX12_crease_125 : decode cX12_crease 125 = .ok (.iload 6, 2) := by decide +kernel
theorem dX12_crease_127 : decode cX12_crease 127 = .ok (.ireturn, 1) := by decide +kernel
theorem dX12_turned_0 : decode cX12_turned 0 = .ok (.iconst 0, 1) := by decide +kernel
theorem dX12_turned_1 : decode cX12_turned 1 = .ok (.istore_n 2, 1) := by decide +kernel
theorem dX12_turned_2 : decode cX12_turned 2 = .ok (.iload_n 2, 1) := by decide +kernel
theorem dX12_turned_3 : decode cX12_turned 3 = .ok (.aload_n 0, 1) := by decide +kernel
theorem dX12_turned_4 : decode cX12_turned 4 = .ok (.getfield 127, 3) := by decide +kernel
theorem dX12_turned_7 : decode cX12_turned 7 = .ok (.if_icmp .ge 59, 3) := by decide +kernel
theorem dX12_turned_10 : decode cX12_turned 10 = .ok (.aload_n 0, 1) := by decide +kernel
theorem dX12_turned_11 : decode cX12_turned 11 = .ok (.getfield 67, 3) := by decide +kernel
theorem dX12_turned_14 : decode cX12_turned 14 = .ok (.iload_n 2, 1) := by decide +kernel
theorem dX12_turned_15 : decode cX12_turned 15 = .ok (.iload_n 1, 1) := by decide +kernel
theorem dX12_turned_16 : decode cX12_turned 16 = .ok (.ifCond .ne 12, 3) := by decide +kernel
theorem dX12_turned_19 : decode cX12_turned 19 = .ok (.aload_n 0, 1) := by decide +kernel
theorem dX12_turned_20 : decode cX12_turned 20 = .ok (.iload_n 2, 1) := by decide +kernel
theorem dX12_turned_21 : decode cX12_turned 21 = .ok (.iconst 3, 1) := by decide +kernel
theorem dX12_turned_22 : decode cX12_turned 22 = .ok (.invokevirtual 269, 3) := by decide +kernel
theorem dX12_turned_25 : decode cX12_turned 25 = .ok (.goto 9, 3) := by decide +kernel
theorem dX12_turned_28 : decode cX12_turned 28 = .ok (.aload_n 0, 1) := by decide +kernel
theorem dX12_turned_29 : decode cX12_turned 29 = .ok (.iload_n 2, 1) := by decide +kernel
theorem dX12_turned_30 : decode cX12_turned 30 = .ok (.iconst 2, 1) := by decide +kernel
theorem dX12_turned_31 : decode cX12_turned 31 = .ok (.invokevirtual 269, 3) := by decide +kernel
theorem dX12_turned_34 : decode cX12_turned 34 = .ok (.iastore, 1) := by decide +kernel
theorem dX12_turned_35 : decode cX12_turned 35 = .ok (.aload_n 0, 1) := by decide +kernel
theorem dX12_turned_36 : decode cX12_turned 36 = .ok (.getfield 70, 3) := by decide +kernel
theorem dX12_turned_39 : decode cX12_turned 39 = .ok (.iload_n 2, 1) := by decide +kernel
theorem dX12_turned_40 : decode cX12_turned 40 = .ok (.iload_n 1, 1) := by decide +kernel
theorem dX12_turned_41 : decode cX12_turned 41 = .ok (.ifCond .ne 12, 3) := by decide +kernel
theorem dX12_turned_44 : decode cX12_turned 44 = .ok (.aload_n 0, 1) := by decide +kernel
theorem dX12_turned_45 : decode cX12_turned 45 = .ok (.iload_n 2, 1) := by decide +kernel
theorem dX12_turned_46 : decode cX12_turned 46 = .ok (.iconst 0, 1) := by decide +kernel
theorem dX12_turned_47 : decode cX12_turned 47 = .ok (.invokevirtual 269, 3) := by decide +kernel
theorem dX12_turned_50 : decode cX12_turned 50 = .ok (.goto 9, 3) := by decide +kernel
theorem dX12_turned_53 : decode cX12_turned 53 = .ok (.aload_n 0, 1) := by decide +kernel
theorem dX12_turned_54 : decode cX12_turned 54 = .ok (.getfield 28, 3) := by decide +kernel
theorem dX12_turned_57 : decode cX12_turned 57 = .ok (.iload_n 2, 1) := by decide +kernel
theorem dX12_turned_58 : decode cX12_turned 58 = .ok (.iaload, 1) := by decide +kernel
theorem dX12_turned_59 : decode cX12_turned 59 = .ok (.iastore, 1) := by decide +kernel
theorem dX12_turned_60 : decode cX12_turned 60 = .ok (.iinc 2 1, 3) := by decide +kernel
theorem dX12_turned_63 : decode cX12_turned 63 = .ok (.goto (-61), 3) := by decide +kernel
theorem dX12_turned_66 : decode cX12_turned 66 = .ok (.iconst 0, 1) := by decide +kernel
theorem dX12_turned_67 : decode cX12_turned 67 = .ok (.istore_n 2, 1) := by decide +kernel
theorem dX12_turned_68 : decode cX12_turned 68 = .ok (.iload_n 2, 1) := by decide +kernel
theorem dX12_turned_69 : decode cX12_turned 69 = .ok (.aload_n 0, 1) := by decide +kernel
theorem dX12_turned_70 : decode cX12_turned 70 = .ok (.getfield 127, 3) := by decide +kernel
theorem dX12_turned_73 : decode cX12_turned 73 = .ok (.if_icmp .ge 63, 3) := by decide +kernel
theorem dX12_turned_76 : decode cX12_turned 76 = .ok (.aload_n 0, 1) := by decide +kernel
theorem dX12_turned_77 : decode cX12_turned 77 = .ok (.getfield 19, 3) := by decide +kernel
theorem dX12_turned_80 : decode cX12_turned 80 = .ok (.iload_n 2, 1) := by decide +kernel
theorem dX12_turned_81 : decode cX12_turned 81 = .ok (.iaload, 1) := by decide +kernel
theorem dX12_turned_82 : decode cX12_turned 82 = .ok (.istore_n 3, 1) := by decide +kernel
theorem dX12_turned_83 : decode cX12_turned 83 = .ok (.aload_n 0, 1) := by decide +kernel
theorem dX12_turned_84 : decode cX12_turned 84 = .ok (.iload_n 2, 1) := by decide +kernel
theorem dX12_turned_85 : decode cX12_turned 85 = .ok (.iload_n 1, 1) := by decide +kernel
theorem dX12_turned_86 : decode cX12_turned 86 = .ok (.ifCond .ne 13, 3) := by decide +kernel
theorem dX12_turned_89 : decode cX12_turned 89 = .ok (.aload_n 0, 1) := by decide +kernel
theorem dX12_turned_90 : decode cX12_turned 90 = .ok (.getfield 22, 3) := by decide +kernel
theorem dX12_turned_93 : decode cX12_turned 93 = .ok (.iload_n 2, 1) := by decide +kernel
theorem dX12_turned_94 : decode cX12_turned 94 = .ok (.iaload, 1) := by decide +kernel
theorem dX12_turned_95 : decode cX12_turned 95 = .ok (.ineg, 1) := by decide +kernel
theorem dX12_turned_96 : decode cX12_turned 96 = .ok (.goto 5, 3) := by decide +kernel
theorem dX12_turned_99 : decode cX12_turned 99 = .ok (.iload_n 3, 1) := by decide +kernel
theorem dX12_turned_100 : decode cX12_turned 100 = .ok (.ineg, 1) := by decide +kernel
theorem dX12_turned_101 : decode cX12_turned 101 = .ok (.iload_n 1, 1) := by decide +kernel
theorem dX12_turned_102 : decode cX12_turned 102 = .ok (.ifCond .ne 7, 3) := by decide +kernel
theorem dX12_turned_105 : decode cX12_turned 105 = .ok (.iload_n 3, 1) := by decide +kernel
theorem dX12_turned_106 : decode cX12_turned 106 = .ok (.goto 9, 3) := by decide +kernel
theorem dX12_turned_109 : decode cX12_turned 109 = .ok (.aload_n 0, 1) := by decide +kernel
theorem dX12_turned_110 : decode cX12_turned 110 = .ok (.getfield 22, 3) := by decide +kernel
theorem dX12_turned_113 : decode cX12_turned 113 = .ok (.iload_n 2, 1) := by decide +kernel
theorem dX12_turned_114 : decode cX12_turned 114 = .ok (.iaload, 1) := by decide +kernel
theorem dX12_turned_115 : decode cX12_turned 115 = .ok (.aload_n 0, 1) := by decide +kernel
theorem dX12_turned_116 : decode cX12_turned 116 = .ok (.getfield 67, 3) := by decide +kernel
theorem dX12_turned_119 : decode cX12_turned 119 = .ok (.iload_n 2, 1) := by decide +kernel
theorem dX12_turned_120 : decode cX12_turned 120 = .ok (.iaload, 1) := by decide +kernel
theorem dX12_turned_121 : decode cX12_turned 121 = .ok (.aload_n 0, 1) := by decide +kernel
theorem dX12_turned_122 : decode cX12_turned 122 = .ok (.getfield 70, 3) := by decide +kernel
theorem dX12_turned_125 : decode cX12_turned 125 = .ok (.iload_n 2, 1) := by decide +kernel
theorem dX12_turned_126 : decode cX12_turned 126 = .ok (.iaload, 1) := by decide +kernel
theorem dX12_turned_127 : decode cX12_turned 127 = .ok (.invokevirtual 251, 3) := by decide +kernel
theorem dX12_turned_130 : decode cX12_turned 130 = .ok (.iinc 2 1, 3) := by decide +kernel
theorem dX12_turned_133 : decode cX12_turned 133 = .ok (.goto (-65), 3) := by decide +kernel
theorem dX12_turned_136 : decode cX12_turned 136 = .ok (.aload_n 0, 1) := by decide +kernel
theorem dX12_turned_137 : decode cX12_turned 137 = .ok (.invokevirtual 242, 3) := by decide +kernel
theorem dX12_turned_140 : decode cX12_turned 140 = .ok (.return_, 1) := by decide +kernel
theorem dX12_turn_0 : decode cX12_turn 0 = .ok (.aload_n 0, 1) := by decide +kernel
theorem dX12_turn_1 : decode cX12_turn 1 = .ok (.iconst 0, 1) := by decide +kernel
theorem dX12_turn_2 : decode cX12_turn 2 = .ok (.putfield 113, 3) := by decide +kernel
theorem dX12_turn_5 : decode cX12_turn 5 = .ok (.iload_n 1, 1) := by decide +kernel
theorem dX12_turn_6 : decode cX12_turn 6 = .ok (.iconst 0, 1) := by decide +kernel
theorem dX12_turn_7 : decode cX12_turn 7 = .ok (.iconst 1, 1) := by decide +kernel
theorem dX12_turn_8 : decode cX12_turn 8 = .ok (.invokestatic 139, 3) := by decide +kernel
theorem dX12_turn_11 : decode cX12_turn 11 = .ok (.ifCond .ne 6, 3) := by decide +kernel
theorem dX12_turn_14 : decode cX12_turn 14 = .ok (.bipush (-3), 2) := by decide +kernel
theorem dX12_turn_16 : decode cX12_turn 16 = .ok (.ireturn, 1) := by decide +kernel
theorem dX12_turn_17 : decode cX12_turn 17 = .ok (.aload_n 0, 1) := by decide +kernel
theorem dX12_turn_18 : decode cX12_turn 18 = .ok (.invokevirtual 136, 3) := by decide +kernel
theorem dX12_turn_21 : decode cX12_turn 21 = .ok (.aload_n 0, 1) := by decide +kernel
theorem dX12_turn_22 : decode cX12_turn 22 = .ok (.iload_n 1, 1) := by decide +kernel
theorem dX12_turn_23 : decode cX12_turn 23 = .ok (.invokevirtual 275, 3) := by decide +kernel
theorem dX12_turn_26 : decode cX12_turn 26 = .ok (.iconst 0, 1) := by decide +kernel
theorem dX12_turn_27 : decode cX12_turn 27 = .ok (.ireturn, 1) := by decide +kernel
theorem dX12_clear_0 : decode cX12_clear 0 = .ok (.aload_n 0, 1) := by decide +kernel
theorem dX12_clear_1 : decode cX12_clear 1 = .ok (.iconst 0, 1) := by decide +kernel
theorem dX12_clear_2 : decode cX12_clear 2 = .ok (.putfield 113, 3) := by decide +kernel
theorem dX12_clear_5 : decode cX12_clear 5 = .ok (.aload_n 0, 1) := by decide +kernel
theorem dX12_clear_6 : decode cX12_clear 6 = .ok (.invokevirtual 136, 3) := by decide +kernel
theorem dX12_clear_9 : decode cX12_clear 9 = .ok (.aload_n 0, 1) := by decide +kernel
theorem dX12_clear_10 : decode cX12_clear 10 = .ok (.getfield 127, 3) := by decide +kernel
theorem dX12_clear_13 : decode cX12_clear 13 = .ok (.istore_n 1, 1) := by decide +kernel
theorem dX12_clear_14 : decode cX12_clear 14 = .ok (.aload_n 0, 1) := by decide +kernel
theorem dX12_clear_15 : decode cX12_clear 15 = .ok (.iconst 0, 1) := by decide +kernel
theorem dX12_clear_16 : decode cX12_clear 16 = .ok (.putfield 127, 3) := by decide +kernel
theorem dX12_clear_19 : decode cX12_clear 19 = .ok (.iload_n 1, 1) := by decide +kernel
theorem dX12_clear_20 : decode cX12_clear 20 = .ok (.ireturn, 1) := by decide +kernel
theorem dX12_told_0 : decode cX12_told 0 = .ok (.aload_n 0, 1) := by decide +kernel
theorem dX12_told_1 : decode cX12_told 1 = .ok (.iconst 0, 1) := by decide +kernel
theorem dX12_told_2 : decode cX12_told 2 = .ok (.putfield 113, 3) := by decide +kernel
theorem dX12_told_5 : decode cX12_told 5 = .ok (.iload_n 1, 1) := by decide +kernel
theorem dX12_told_6 : decode cX12_told 6 = .ok (.iconst 0, 1) := by decide +kernel
theorem dX12_told_7 : decode cX12_told 7 = .ok (.aload_n 0, 1) := by decide +kernel
theorem dX12_told_8 : decode cX12_told 8 = .ok (.getfield 127, 3) := by decide +kernel
theorem dX12_told_11 : decode cX12_told 11 = .ok (.iconst 1, 1) := by decide +kernel
theorem dX12_told_12 : decode cX12_told 12 = .ok (.isub, 1) := by decide +kernel
theorem dX12_told_13 : decode cX12_told 13 = .ok (.invokestatic 139, 3) := by decide +kernel
theorem dX12_told_16 : decode cX12_told 16 = .ok (.ifCond .eq 12, 3) := by decide +kernel
theorem dX12_told_19 : decode cX12_told 19 = .ok (.iload_n 2, 1) := by decide +kernel
theorem dX12_told_20 : decode cX12_told 20 = .ok (.iconst 0, 1) := by decide +kernel
theorem dX12_told_21 : decode cX12_told 21 = .ok (.iconst 2, 1) := by decide +kernel
theorem dX12_told_22 : decode cX12_told 22 = .ok (.invokestatic 139, 3) := by decide +kernel
theorem dX12_told_25 : decode cX12_told 25 = .ok (.ifCond .ne 6, 3) := by decide +kernel
theorem dX12_told_28 : decode cX12_told 28 = .ok (.bipush (-3), 2) := by decide +kernel
theorem dX12_told_30 : decode cX12_told 30 = .ok (.ireturn, 1) := by decide +kernel
theorem dX12_told_31 : decode cX12_told 31 = .ok (.iconst 0, 1) := by decide +kernel
theorem dX12_told_32 : decode cX12_told 32 = .ok (.istore_n 3, 1) := by decide +kernel
theorem dX12_told_33 : decode cX12_told 33 = .ok (.iconst 0, 1) := by decide +kernel
theorem dX12_told_34 : decode cX12_told 34 = .ok (.istore 4, 2) := by decide +kernel
theorem dX12_told_36 : decode cX12_told 36 = .ok (.iload 4, 2) := by decide +kernel
theorem dX12_told_38 : decode cX12_told 38 = .ok (.iconst 4, 1) := by decide +kernel
theorem dX12_told_39 : decode cX12_told 39 = .ok (.if_icmp .ge 27, 3) := by decide +kernel
theorem dX12_told_42 : decode cX12_told 42 = .ok (.iload_n 3, 1) := by decide +kernel
theorem dX12_told_43 : decode cX12_told 43 = .ok (.aload_n 0, 1) := by decide +kernel
theorem dX12_told_44 : decode cX12_told 44 = .ok (.iload_n 1, 1) := by decide +kernel
theorem dX12_told_45 : decode cX12_told 45 = .ok (.iload 4, 2) := by decide +kernel
theorem dX12_told_47 : decode cX12_told 47 = .ok (.invokevirtual 269, 3) := by decide +kernel
theorem dX12_told_50 : decode cX12_told 50 = .ok (.ifCond .eq 7, 3) := by decide +kernel
theorem dX12_told_53 : decode cX12_told 53 = .ok (.iconst 1, 1) := by decide +kernel
theorem dX12_told_54 : decode cX12_told 54 = .ok (.goto 4, 3) := by decide +kernel
theorem dX12_told_57 : decode cX12_told 57 = .ok (.iconst 0, 1) := by decide +kernel
theorem dX12_told_58 : decode cX12_told 58 = .ok (.iadd, 1) := by decide +kernel
theorem dX12_told_59 : decode cX12_told 59 = .ok (.istore_n 3, 1) := by decide +kernel
theorem dX12_told_60 : decode cX12_told 60 = .ok (.iinc 4 1, 3) := by decide +kernel
theorem dX12_told_63 : decode cX12_told 63 = .ok (.goto (-27), 3) := by decide +kernel
theorem dX12_told_66 : decode cX12_told 66 = .ok (.iload_n 2, 1) := by decide +kernel
theorem dX12_told_67 : decode cX12_told 67 = .ok (.ifCond .ne 12, 3) := by decide +kernel
theorem dX12_told_70 : decode cX12_told 70 = .ok (.aload_n 0, 1) := by decide +kernel
theorem dX12_told_71 : decode cX12_told 71 = .ok (.getfield 19, 3) := by decide +kernel
theorem dX12_told_74 : decode cX12_told 74 = .ok (.iload_n 1, 1) := by decide +kernel
theorem dX12_told_75 : decode cX12_told 75 = .ok (.iaload, 1) := by decide +kernel
theorem dX12_told_76 : decode cX12_told 76 = .ok (.goto 18, 3) := by decide +kernel
theorem dX12_told_79 : decode cX12_told 79 = .ok (.iload_n 2, 1) := by decide +kernel
theorem dX12_told_80 : decode cX12_told 80 = .ok (.iconst 1, 1) := by decide +kernel
theorem dX12_told_81 : decode cX12_told 81 = .ok (.if_icmp .ne 12, 3) := by decide +kernel
theorem dX12_told_84 : decode cX12_told 84 = .ok (.aload_n 0, 1) := by decide +kernel
theorem dX12_told_85 : decode cX12_told 85 = .ok (.getfield 22, 3) := by decide +kernel
theorem dX12_told_88 : decode cX12_told 88 = .ok (.iload_n 1, 1) := by decide +kernel
theorem dX12_told_89 : decode cX12_told 89 = .ok (.iaload, 1) := by decide +kernel
theorem dX12_told_90 : decode cX12_told 90 = .ok (.goto 4, 3) := by decide +kernel
theorem dX12_told_93 : decode cX12_told 93 = .ok (.iload_n 3, 1) := by decide +kernel
theorem dX12_told_94 : decode cX12_told 94 = .ok (.ireturn, 1) := by decide +kernel
theorem dX12_toward_0 : decode cX12_toward 0 = .ok (.iload_n 2, 1) := by decide +kernel
theorem dX12_toward_1 : decode cX12_toward 1 = .ok (.ifCond .ne 12, 3) := by decide +kernel
theorem dX12_toward_4 : decode cX12_toward 4 = .ok (.aload_n 0, 1) := by decide +kernel
theorem dX12_toward_5 : decode cX12_toward 5 = .ok (.getfield 85, 3) := by decide +kernel
theorem dX12_toward_8 : decode cX12_toward 8 = .ok (.iload_n 1, 1) := by decide +kernel
theorem dX12_toward_9 : decode cX12_toward 9 = .ok (.iaload, 1) := by decide +kernel
theorem dX12_toward_10 : decode cX12_toward 10 = .ok (.goto 41, 3) := by decide +kernel
theorem dX12_toward_13 : decode cX12_toward 13 = .ok (.iload_n 2, 1) := by decide +kernel
theorem dX12_toward_14 : decode cX12_toward 14 = .ok (.iconst 1, 1) := by decide +kernel
theorem dX12_toward_15 : decode cX12_toward 15 = .ok (.if_icmp .ne 12, 3) := by decide +kernel
theorem dX12_toward_18 : decode cX12_toward 18 = .ok (.aload_n 0, 1) := by decide +kernel
theorem dX12_toward_19 : decode cX12_toward 19 = .ok (.getfield 88, 3) := by decide +kernel
theorem dX12_toward_22 : decode cX12_toward 22 = .ok (.iload_n 1, 1) := by decide +kernel
theorem dX12_toward_23 : decode cX12_toward 23 = .ok (.iaload, 1) := by decide +kernel
theorem dX12_toward_24 : decode cX12_toward 24 = .ok (.goto 27, 3) := by decide +kernel
theorem dX12_toward_27 : decode cX12_toward 27 = .ok (.iload_n 2, 1) := by decide +kernel
theorem dX12_toward_28 : decode cX12_toward 28 = .ok (.iconst 2, 1) := by decide +kernel
theorem dX12_toward_29 : decode cX12_toward 29 = .ok (.if_icmp .ne 14, 3) := by decide +kernel
theorem dX12_toward_32 : decode cX12_toward 32 = .ok (.aload_n 0, 1) := by decide +kernel
theorem dX12_toward_33 : decode cX12_toward 33 = .ok (.getfield 85, 3) := by decide +kernel
theorem dX12_toward_36 : decode cX12_toward 36 = .ok (.iload_n 1, 1) := by decide +kernel
theorem dX12_toward_37 : decode cX12_toward 37 = .ok (.iaload, 1) := by decide +kernel
theorem dX12_toward_38 : decode cX12_toward 38 = .ok (.iconst 1, 1) := by decide +kernel
theorem dX12_toward_39 : decode cX12_toward 39 = .ok (.ixor, 1) := by decide +kernel
theorem dX12_toward_40 : decode cX12_toward 40 = .ok (.goto 11, 3) := by decide +kernel
theorem dX12_toward_43 : decode cX12_toward 43 = .ok (.aload_n 0, 1) := by decide +kernel
theorem dX12_toward_44 : decode cX12_toward 44 = .ok (.getfield 88, 3) := by decide +kernel
theorem dX12_toward_47 : decode cX12_toward 47 = .ok (.iload_n 1, 1) := by decide +kernel
theorem dX12_toward_48 : decode cX12_toward 48 = .ok (.iaload, 1) := by decide +kernel
theorem dX12_toward_49 : decode cX12_toward 49 = .ok (.iconst 1, 1) := by decide +kernel
theorem dX12_toward_50 : decode cX12_toward 50 = .ok (.ixor, 1) := by decide +kernel
theorem dX12_toward_51 : decode cX12_toward 51 = .ok (.ireturn, 1) := by decide +kernel
theorem dX12_foldAcross_0 : decode cX12_foldAcross 0 = .ok (.aload_n 0, 1) := by decide +kernel
theorem dX12_foldAcross_1 : decode cX12_foldAcross 1 = .ok (.iload_n 1, 1) := by decide +kernel
theorem dX12_foldAcross_2 : decode cX12_foldAcross 2 = .ok (.iload_n 2, 1) := by decide +kernel
theorem dX12_foldAcross_3 : decode cX12_foldAcross 3 = .ok (.invokevirtual 269, 3) := by decide +kernel
theorem dX12_foldAcross_6 : decode cX12_foldAcross 6 = .ok (.iconst 2, 1) := by decide +kernel
theorem dX12_foldAcross_7 : decode cX12_foldAcross 7 = .ok (.isub, 1) := by decide +kernel
theorem dX12_foldAcross_8 : decode cX12_foldAcross 8 = .ok (.istore_n 3, 1) := by decide +kernel
theorem dX12_foldAcross_9 : decode cX12_foldAcross 9 = .ok (.aload_n 0, 1) := by decide +kernel
theorem dX12_foldAcross_10 : decode cX12_foldAcross 10 = .ok (.iload_n 1, 1) := by decide +kernel
theorem dX12_foldAcross_11 : decode cX12_foldAcross 11 = .ok (.iload_n 2, 1) := by decide +kernel
theorem dX12_foldAcross_12 : decode cX12_foldAcross 12 = .ok (.invokevirtual 258, 3) := by decide +kernel
theorem dX12_foldAcross_15 : decode cX12_foldAcross 15 = .ok (.istore 4, 2) := by decide +kernel
theorem dX12_foldAcross_17 : decode cX12_foldAcross 17 = .ok (.aload_n 0, 1) := by decide +kernel
theorem dX12_foldAcross_18 : decode cX12_foldAcross 18 = .ok (.iload_n 1, 1) := by decide +kernel
theorem dX12_foldAcross_19 : decode cX12_foldAcross 19 = .ok (.iload_n 2, 1) := by decide +kernel
theorem dX12_foldAcross_20 : decode cX12_foldAcross 20 = .ok (.invokevirtual 279, 3) := by decide +kernel
theorem dX12_foldAcross_23 : decode cX12_foldAcross 23 = .ok (.istore 5, 2) := by decide +kernel
theorem dX12_foldAcross_25 : decode cX12_foldAcross 25 = .ok (.aload_n 0, 1) := by decide +kernel
theorem dX12_foldAcross_26 : decode cX12_foldAcross 26 = .ok (.iload_n 1, 1) := by decide +kernel
theorem dX12_foldAcross_27 : decode cX12_foldAcross 27 = .ok (.iload_n 2, 1) := by decide +kernel
theorem dX12_foldAcross_28 : decode cX12_foldAcross 28 = .ok (.iconst 1, 1) := by decide +kernel
theorem dX12_foldAcross_29 : decode cX12_foldAcross 29 = .ok (.iadd, 1) := by decide +kernel
theorem dX12_foldAcross_30 : decode cX12_foldAcross 30 = .ok (.iconst 4, 1) := by decide +kernel
theorem dX12_foldAcross_31 : decode cX12_foldAcross 31 = .ok (.irem, 1) := by decide +kernel
theorem dX12_foldAcross_32 : decode cX12_foldAcross 32 = .ok (.invokevirtual 279, 3) := by decide +kernel
theorem dX12_foldAcross_35 : decode cX12_foldAcross 35 = .ok (.istore 6, 2) := by decide +kernel
theorem dX12_foldAcross_37 : decode cX12_foldAcross 37 = .ok (.aload_n 0, 1) := by decide +kernel
theorem dX12_foldAcross_38 : decode cX12_foldAcross 38 = .ok (.getfield 91, 3) := by decide +kernel
theorem dX12_foldAcross_41 : decode cX12_foldAcross 41 = .ok (.iload_n 1, 1) := by decide +kernel
theorem dX12_foldAcross_42 : decode cX12_foldAcross 42 = .ok (.iaload, 1) := by decide +kernel
theorem dX12_foldAcross_43 : decode cX12_foldAcross 43 = .ok (.istore 7, 2) := by decide +kernel
theorem dX12_foldAcross_45 : decode cX12_foldAcross 45 = .ok (.iload_n 3, 1) := by decide +kernel
theorem dX12_foldAcross_46 : decode cX12_foldAcross 46 = .ok (.ifCond .ne 8, 3) := by decide +kernel
theorem dX12_foldAcross_49 : decode cX12_foldAcross 49 = .ok (.iload 5, 2) := by decide +kernel
theorem dX12_foldAcross_51 : decode cX12_foldAcross 51 = .ok (.goto 17, 3) := by decide +kernel
theorem dX12_foldAcross_54 : decode cX12_foldAcross 54 = .ok (.iload_n 3, 1) := by decide +kernel
theorem dX12_foldAcross_55 : decode cX12_foldAcross 55 = .ok (.iconst 1, 1) := by decide +kernel
theorem dX12_foldAcross_56 : decode cX12_foldAcross 56 = .ok (.if_icmp .ne 10, 3) := by decide +kernel
theorem dX12_foldAcross_59 : decode cX12_foldAcross 59 = .ok (.iload 7, 2) := by decide +kernel
theorem dX12_foldAcross_61 : decode cX12_foldAcross 61 = .ok (.iconst 1, 1) := by decide +kernel
theorem dX12_foldAcross_62 : decode cX12_foldAcross 62 = .ok (.ixor, 1) := by decide +kernel
theorem dX12_foldAcross_63 : decode cX12_foldAcross 63 = .ok (.goto 5, 3) := by decide +kernel
theorem dX12_foldAcross_66 : decode cX12_foldAcross 66 = .ok (.iload 7, 2) := by decide +kernel
theorem dX12_foldAcross_68 : decode cX12_foldAcross 68 = .ok (.istore 8, 2) := by decide +kernel
theorem dX12_foldAcross_70 : decode cX12_foldAcross 70 = .ok (.iload_n 3, 1) := by decide +kernel
theorem dX12_foldAcross_71 : decode cX12_foldAcross 71 = .ok (.ifCond .ne 8, 3) := by decide +kernel
theorem dX12_foldAcross_74 : decode cX12_foldAcross 74 = .ok (.iload 7, 2) := by decide +kernel
theorem dX12_foldAcross_76 : decode cX12_foldAcross 76 = .ok (.goto 17, 3) := by decide +kernel
theorem dX12_foldAcross_79 : decode cX12_foldAcross 79 = .ok (.iload_n 3, 1) := by decide +kernel
theorem dX12_foldAcross_80 : decode cX12_foldAcross 80 = .ok (.iconst 1, 1) := by decide +kernel
theorem dX12_foldAcross_81 : decode cX12_foldAcross 81 = .ok (.if_icmp .ne 8, 3) := by decide +kernel
theorem dX12_foldAcross_84 : decode cX12_foldAcross 84 = .ok (.iload 5, 2) := by decide +kernel
theorem dX12_foldAcross_86 : decode cX12_foldAcross 86 = .ok (.goto 7, 3) := by decide +kernel
theorem dX12_foldAcross_89 : decode cX12_foldAcross 89 = .ok (.iload 5, 2) := by decide +kernel
theorem dX12_foldAcross_91 : decode cX12_foldAcross 91 = .ok (.iconst 1, 1) := by decide +kernel
theorem dX12_foldAcross_92 : decode cX12_foldAcross 92 = .ok (.ixor, 1) := by decide +kernel
theorem dX12_foldAcross_93 : decode cX12_foldAcross 93 = .ok (.istore 9, 2) := by decide +kernel
theorem dX12_foldAcross_95 : decode cX12_foldAcross 95 = .ok (.iload_n 3, 1) := by decide +kernel
theorem dX12_foldAcross_96 : decode cX12_foldAcross 96 = .ok (.ifCond .ne 8, 3) := by decide +kernel
theorem dX12_foldAcross_99 : decode cX12_foldAcross 99 = .ok (.iload 5, 2) := by decide +kernel
theorem dX12_foldAcross_101 : decode cX12_foldAcross 101 = .ok (.goto 17, 3) := by decide +kernel
theorem dX12_foldAcross_104 : decode cX12_foldAcross 104 = .ok (.iload_n 3, 1) := by decide +kernel
theorem dX12_foldAcross_105 : decode cX12_foldAcross 105 = .ok (.iconst 1, 1) := by decide +kernel
theorem dX12_foldAcross_106 : decode cX12_foldAcross 106 = .ok (.if_icmp .ne 10, 3) := by decide +kernel
theorem dX12_foldAcross_109 : decode cX12_foldAcross 109 = .ok (.iload 7, 2) := by decide +kernel
theorem dX12_foldAcross_111 : decode cX12_foldAcross 111 = .ok (.iconst 1, 1) := by decide +kernel
theorem dX12_foldAcross_112 : decode cX12_foldAcross 112 = .ok (.ixor, 1) := by decide +kernel
theorem dX12_foldAcross_113 : decode cX12_foldAcross 113 = .ok (.goto 5, 3) := by decide +kernel
theorem dX12_foldAcross_116 : decode cX12_foldAcross 116 = .ok (.iload 7, 2) := by decide +kernel
theorem dX12_foldAcross_118 : decode cX12_foldAcross 118 = .ok (.istore 10, 2) := by decide +kernel
theorem dX12_foldAcross_120 : decode cX12_foldAcross 120 = .ok (.aload_n 0, 1) := by decide +kernel
theorem dX12_foldAcross_121 : decode cX12_foldAcross 121 = .ok (.getfield 76, 3) := by decide +kernel
theorem dX12_foldAcross_124 : decode cX12_foldAcross 124 = .ok (.iload_n 1, 1) := by decide +kernel
theorem dX12_foldAcross_125 : decode cX12_foldAcross 125 = .ok (.iaload, 1) := by decide +kernel
theorem dX12_foldAcross_126 : decode cX12_foldAcross 126 = .ok (.iload 5, 2) := by decide +kernel
theorem dX12_foldAcross_128 : decode cX12_foldAcross 128 = .ok (.iconst 0, 1) := by decide +kernel
theorem dX12_foldAcross_129 : decode cX12_foldAcross 129 = .ok (.invokestatic 154, 3) := by decide +kernel
theorem dX12_foldAcross_132 : decode cX12_foldAcross 132 = .ok (.iadd, 1) := by decide +kernel
theorem dX12_foldAcross_133 : decode cX12_foldAcross 133 = .ok (.iload 10, 2) := by decide +kernel
theorem dX12_foldAcross_135 : decode cX12_foldAcross 135 = .ok (.iconst 0, 1) := by decide +kernel
theorem dX12_foldAcross_136 : decode cX12_foldAcross 136 = .ok (.invokestatic 154, 3) := by decide +kernel
theorem dX12_foldAcross_139 : decode cX12_foldAcross 139 = .ok (.iadd, 1) := by decide +kernel
theorem dX12_foldAcross_140 : decode cX12_foldAcross 140 = .ok (.istore 11, 2) := by decide +kernel
theorem dX12_foldAcross_142 : decode cX12_foldAcross 142 = .ok (.aload_n 0, 1) := by decide +kernel
theorem dX12_foldAcross_143 : decode cX12_foldAcross 143 = .ok (.getfield 79, 3) := by decide +kernel
theorem dX12_foldAcross_146 : decode cX12_foldAcross 146 = .ok (.iload_n 1, 1) := by decide +kernel
theorem dX12_foldAcross_147 : decode cX12_foldAcross 147 = .ok (.iaload, 1) := by decide +kernel
theorem dX12_foldAcross_148 : decode cX12_foldAcross 148 = .ok (.iload 5, 2) := by decide +kernel
theorem dX12_foldAcross_150 : decode cX12_foldAcross 150 = .ok (.iconst 1, 1) := by decide +kernel
theorem dX12_foldAcross_151 : decode cX12_foldAcross 151 = .ok (.invokestatic 154, 3) := by decide +kernel
theorem dX12_foldAcross_154 : decode cX12_foldAcross 154 = .ok (.iadd, 1) := by decide +kernel
theorem dX12_foldAcross_155 : decode cX12_foldAcross 155 = .ok (.iload 10, 2) := by decide +kernel
theorem dX12_foldAcross_157 : decode cX12_foldAcross 157 = .ok (.iconst 1, 1) := by decide +kernel
theorem dX12_foldAcross_158 : decode cX12_foldAcross 158 = .ok (.invokestatic 154, 3) := by decide +kernel
theorem dX12_foldAcross_161 : decode cX12_foldAcross 161 = .ok (.iadd, 1) := by decide +kernel
theorem dX12_foldAcross_162 : decode cX12_foldAcross 162 = .ok (.istore 12, 2) := by decide +kernel
theorem dX12_foldAcross_164 : decode cX12_foldAcross 164 = .ok (.aload_n 0, 1) := by decide +kernel
theorem dX12_foldAcross_165 : decode cX12_foldAcross 165 = .ok (.getfield 82, 3) := by decide +kernel
theorem dX12_foldAcross_168 : decode cX12_foldAcross 168 = .ok (.iload_n 1, 1) := by decide +kernel
theorem dX12_foldAcross_169 : decode cX12_foldAcross 169 = .ok (.iaload, 1) := by decide +kernel
theorem dX12_foldAcross_170 : decode cX12_foldAcross 170 = .ok (.iload 5, 2) := by decide +kernel
theorem dX12_foldAcross_172 : decode cX12_foldAcross 172 = .ok (.iconst 2, 1) := by decide +kernel
theorem dX12_foldAcross_173 : decode cX12_foldAcross 173 = .ok (.invokestatic 154, 3) := by decide +kernel
theorem dX12_foldAcross_176 : decode cX12_foldAcross 176 = .ok (.iadd, 1) := by decide +kernel
theorem dX12_foldAcross_177 : decode cX12_foldAcross 177 = .ok (.iload 10, 2) := by decide +kernel
theorem dX12_foldAcross_179 : decode cX12_foldAcross 179 = .ok (.iconst 2, 1) := by decide +kernel
theorem dX12_foldAcross_180 : decode cX12_foldAcross 180 = .ok (.invokestatic 154, 3) := by decide +kernel
theorem dX12_foldAcross_183 : decode cX12_foldAcross 183 = .ok (.iadd, 1) := by decide +kernel
theorem dX12_foldAcross_184 : decode cX12_foldAcross 184 = .ok (.istore 13, 2) := by decide +kernel
theorem dX12_foldAcross_186 : decode cX12_foldAcross 186 = .ok (.iload_n 2, 1) := by decide +kernel
theorem dX12_foldAcross_187 : decode cX12_foldAcross 187 = .ok (.ifCond .ne 8, 3) := by decide +kernel
theorem dX12_foldAcross_190 : decode cX12_foldAcross 190 = .ok (.iload 8, 2) := by decide +kernel
theorem dX12_foldAcross_192 : decode cX12_foldAcross 192 = .ok (.goto 29, 3) := by decide +kernel
theorem dX12_foldAcross_195 : decode cX12_foldAcross 195 = .ok (.iload_n 2, 1) := by decide +kernel
theorem dX12_foldAcross_196 : decode cX12_foldAcross 196 = .ok (.iconst 1, 1) := by decide +kernel
theorem dX12_foldAcross_197 : decode cX12_foldAcross 197 = .ok (.if_icmp .ne 10, 3) := by decide +kernel
theorem dX12_foldAcross_200 : decode cX12_foldAcross 200 = .ok (.iload 6, 2) := by decide +kernel
theorem dX12_foldAcross_202 : decode cX12_foldAcross 202 = .ok (.iconst 1, 1) := by decide +kernel
theorem dX12_foldAcross_203 : decode cX12_foldAcross 203 = .ok (.ixor, 1) := by decide +kernel
theorem dX12_foldAcross_204 : decode cX12_foldAcross 204 = .ok (.goto 17, 3) := by decide +kernel
theorem dX12_foldAcross_207 : decode cX12_foldAcross 207 = .ok (.iload_n 2, 1) := by decide +kernel
theorem dX12_foldAcross_208 : decode cX12_foldAcross 208 = .ok (.iconst 2, 1) := by decide +kernel
theorem dX12_foldAcross_209 : decode cX12_foldAcross 209 = .ok (.if_icmp .ne 10, 3) := by decide +kernel
theorem dX12_foldAcross_212 : decode cX12_foldAcross 212 = .ok (.iload 8, 2) := by decide +kernel
theorem dX12_foldAcross_214 : decode cX12_foldAcross 214 = .ok (.iconst 1, 1) := by decide +kernel
theorem dX12_foldAcross_215 : decode cX12_foldAcross 215 = .ok (.ixor, 1) := by decide +kernel
theorem dX12_foldAcross_216 : decode cX12_foldAcross 216 = .ok (.goto 5, 3) := by decide +kernel
theorem dX12_foldAcross_219 : decode cX12_foldAcross 219 = .ok (.iload 6, 2) := by decide +kernel
theorem dX12_foldAcross_221 : decode cX12_foldAcross 221 = .ok (.istore 14, 2) := by decide +kernel
theorem dX12_foldAcross_223 : decode cX12_foldAcross 223 = .ok (.iload_n 2, 1) := by decide +kernel
theorem dX12_foldAcross_224 : decode cX12_foldAcross 224 = .ok (.ifCond .ne 8, 3) := by decide +kernel
theorem dX12_foldAcross_227 : decode cX12_foldAcross 227 = .ok (.iload 6, 2) := by decide +kernel
theorem dX12_foldAcross_229 : decode cX12_foldAcross 229 = .ok (.goto 29, 3) := by decide +kernel
theorem dX12_foldAcross_232 : decode cX12_foldAcross 232 = .ok (.iload_n 2, 1) := by decide +kernel
theorem dX12_foldAcross_233 : decode cX12_foldAcross 233 = .ok (.iconst 1, 1) := by decide +kernel
theorem dX12_foldAcross_234 : decode cX12_foldAcross 234 = .ok (.if_icmp .ne 8, 3) := by decide +kernel
theorem dX12_foldAcross_237 : decode cX12_foldAcross 237 = .ok (.iload 8, 2) := by decide +kernel
theorem dX12_foldAcross_239 : decode cX12_foldAcross 239 = .ok (.goto 19, 3) := by decide +kernel
theorem dX12_foldAcross_242 : decode cX12_foldAcross 242 = .ok (.iload_n 2, 1) := by decide +kernel
theorem dX12_foldAcross_243 : decode cX12_foldAcross 243 = .ok (.iconst 2, 1) := by decide +kernel
theorem dX12_foldAcross_244 : decode cX12_foldAcross 244 = .ok (.if_icmp .ne 10, 3) := by decide +kernel
theorem dX12_foldAcross_247 : decode cX12_foldAcross 247 = .ok (.iload 6, 2) := by decide +kernel
theorem dX12_foldAcross_249 : decode cX12_foldAcross 249 = .ok (.iconst 1, 1) := by decide +kernel
theorem dX12_foldAcross_250 : decode cX12_foldAcross 250 = .ok (.ixor, 1) := by decide +kernel
theorem dX12_foldAcross_251 : decode cX12_foldAcross 251 = .ok (.goto 7, 3) := by decide +kernel
theorem dX12_foldAcross_254 : decode cX12_foldAcross 254 = .ok (.iload 8, 2) := by decide +kernel
theorem dX12_foldAcross_256 : decode cX12_foldAcross 256 = .ok (.iconst 1, 1) := by decide +kernel
theorem dX12_foldAcross_257 : decode cX12_foldAcross 257 = .ok (.ixor, 1) := by decide +kernel
theorem dX12_foldAcross_258 : decode cX12_foldAcross 258 = .ok (.istore 15, 2) := by decide +kernel
theorem dX12_foldAcross_260 : decode cX12_foldAcross 260 = .ok (.aload_n 0, 1) := by decide +kernel
theorem dX12_foldAcross_261 : decode cX12_foldAcross 261 = .ok (.getfield 73, 3) := by decide +kernel
theorem dX12_foldAcross_264 : decode cX12_foldAcross 264 = .ok (.iload 4, 2) := by decide +kernel
theorem dX12_foldAcross_266 : decode cX12_foldAcross 266 = .ok (.iaload, 1) := by decide +kernel
theorem dX12_foldAcross_267 : decode cX12_foldAcross 267 = .ok (.iconst 1, 1) := by decide +kernel
theorem dX12_foldAcross_268 : decode cX12_foldAcross 268 = .ok (.if_icmp .ne 93, 3) := by decide +kernel
theorem dX12_foldAcross_271 : decode cX12_foldAcross 271 = .ok (.aload_n 0, 1) := by decide +kernel
theorem dX12_foldAcross_272 : decode cX12_foldAcross 272 = .ok (.getfield 76, 3) := by decide +kernel
theorem dX12_foldAcross_275 : decode cX12_foldAcross 275 = .ok (.iload 4, 2) := by decide +kernel
theorem dX12_foldAcross_277 : decode cX12_foldAcross 277 = .ok (.iaload, 1) := by decide +kernel
theorem dX12_foldAcross_278 : decode cX12_foldAcross 278 = .ok (.iload 11, 2) := by decide +kernel
theorem dX12_foldAcross_280 : decode cX12_foldAcross 280 = .ok (.if_icmp .ne 67, 3) := by decide +kernel
theorem dX12_foldAcross_283 : decode cX12_foldAcross 283 = .ok (.aload_n 0, 1) := by decide +kernel
theorem dX12_foldAcross_284 : decode cX12_foldAcross 284 = .ok (.getfield 79, 3) := by decide +kernel
theorem dX12_foldAcross_287 : decode cX12_foldAcross 287 = .ok (.iload 4, 2) := by decide +kernel
theorem dX12_foldAcross_289 : decode cX12_foldAcross 289 = .ok (.iaload, 1) := by decide +kernel
theorem dX12_foldAcross_290 : decode cX12_foldAcross 290 = .ok (.iload 12, 2) := by decide +kernel
theorem dX12_foldAcross_292 : decode cX12_foldAcross 292 = .ok (.if_icmp .ne 55, 3) := by decide +kernel
theorem dX12_foldAcross_295 : decode cX12_foldAcross 295 = .ok (.aload_n 0, 1) := by decide +kernel
theorem dX12_foldAcross_296 : decode cX12_foldAcross 296 = .ok (.getfield 82, 3) := by decide +kernel
theorem dX12_foldAcross_299 : decode cX12_foldAcross 299 = .ok (.iload 4, 2) := by decide +kernel
theorem dX12_foldAcross_301 : decode cX12_foldAcross 301 = .ok (.iaload, 1) := by decide +kernel
theorem dX12_foldAcross_302 : decode cX12_foldAcross 302 = .ok (.iload 13, 2) := by decide +kernel
theorem dX12_foldAcross_304 : decode cX12_foldAcross 304 = .ok (.if_icmp .ne 43, 3) := by decide +kernel
theorem dX12_foldAcross_307 : decode cX12_foldAcross 307 = .ok (.aload_n 0, 1) := by decide +kernel
theorem dX12_foldAcross_308 : decode cX12_foldAcross 308 = .ok (.getfield 85, 3) := by decide +kernel
theorem dX12_foldAcross_311 : decode cX12_foldAcross 311 = .ok (.iload 4, 2) := by decide +kernel
theorem dX12_foldAcross_313 : decode cX12_foldAcross 313 = .ok (.iaload, 1) := by decide +kernel
theorem dX12_foldAcross_314 : decode cX12_foldAcross 314 = .ok (.iload 14, 2) := by decide +kernel
theorem dX12_foldAcross_316 : decode cX12_foldAcross 316 = .ok (.if_icmp .ne 31, 3) := by decide +kernel
theorem dX12_foldAcross_319 : decode cX12_foldAcross 319 = .ok (.aload_n 0, 1) := by decide +kernel
theorem dX12_foldAcross_320 : decode cX12_foldAcross 320 = .ok (.getfield 88, 3) := by decide +kernel
theorem dX12_foldAcross_323 : decode cX12_foldAcross 323 = .ok (.iload 4, 2) := by decide +kernel
theorem dX12_foldAcross_325 : decode cX12_foldAcross 325 = .ok (.iaload, 1) := by decide +kernel
theorem dX12_foldAcross_326 : decode cX12_foldAcross 326 = .ok (.iload 15, 2) := by decide +kernel
theorem dX12_foldAcross_328 : decode cX12_foldAcross 328 = .ok (.if_icmp .ne 19, 3) := by decide +kernel
theorem dX12_foldAcross_331 : decode cX12_foldAcross 331 = .ok (.aload_n 0, 1) := by decide +kernel
theorem dX12_foldAcross_332 : decode cX12_foldAcross 332 = .ok (.getfield 91, 3) := by decide +kernel
theorem dX12_foldAcross_335 : decode cX12_foldAcross 335 = .ok (.iload 4, 2) := by decide +kernel
theorem dX12_foldAcross_337 : decode cX12_foldAcross 337 = .ok (.iaload, 1) := by decide +kernel
theorem dX12_foldAcross_338 : decode cX12_foldAcross 338 = .ok (.iload 9, 2) := by decide +kernel
theorem dX12_foldAcross_340 : decode cX12_foldAcross 340 = .ok (.if_icmp .ne 7, 3) := by decide +kernel
theorem dX12_foldAcross_343 : decode cX12_foldAcross 343 = .ok (.iconst 1, 1) := by decide +kernel
theorem dX12_foldAcross_344 : decode cX12_foldAcross 344 = .ok (.goto 4, 3) := by decide +kernel
theorem dX12_foldAcross_347 : decode cX12_foldAcross 347 = .ok (.iconst 0, 1) := by decide +kernel
theorem dX12_foldAcross_348 : decode cX12_foldAcross 348 = .ok (.istore 16, 2) := by decide +kernel
theorem dX12_foldAcross_350 : decode cX12_foldAcross 350 = .ok (.iload 16, 2) := by decide +kernel
theorem dX12_foldAcross_352 : decode cX12_foldAcross 352 = .ok (.ifCond .eq 7, 3) := by decide +kernel
theorem dX12_foldAcross_355 : decode cX12_foldAcross 355 = .ok (.iconst 0, 1) := by decide +kernel
theorem dX12_foldAcross_356 : decode cX12_foldAcross 356 = .ok (.goto 4, 3) := by decide +kernel
theorem dX12_foldAcross_359 : decode cX12_foldAcross 359 = .ok (.iconst 2, 1) := by decide +kernel
theorem dX12_foldAcross_360 : decode cX12_foldAcross 360 = .ok (.ireturn, 1) := by decide +kernel
theorem dX12_foldAcross_361 : decode cX12_foldAcross 361 = .ok (.aload_n 0, 1) := by decide +kernel
theorem dX12_foldAcross_362 : decode cX12_foldAcross 362 = .ok (.getfield 73, 3) := by decide +kernel
theorem dX12_foldAcross_365 : decode cX12_foldAcross 365 = .ok (.iload 4, 2) := by decide +kernel
theorem dX12_foldAcross_367 : decode cX12_foldAcross 367 = .ok (.iconst 1, 1) := by decide +kernel
theorem dX12_foldAcross_368 : decode cX12_foldAcross 368 = .ok (.iastore, 1) := by decide +kernel
theorem dX12_foldAcross_369 : decode cX12_foldAcross 369 = .ok (.aload_n 0, 1) := by decide +kernel
theorem dX12_foldAcross_370 : decode cX12_foldAcross 370 = .ok (.getfield 76, 3) := by decide +kernel
theorem dX12_foldAcross_373 : decode cX12_foldAcross 373 = .ok (.iload 4, 2) := by decide +kernel
theorem dX12_foldAcross_375 : decode cX12_foldAcross 375 = .ok (.iload 11, 2) := by decide +kernel
theorem dX12_foldAcross_377 : decode cX12_foldAcross 377 = .ok (.iastore, 1) := by decide +kernel
theorem dX12_foldAcross_378 : decode cX12_foldAcross 378 = .ok (.aload_n 0, 1) := by decide +kernel
theorem dX12_foldAcross_379 : decode cX12_foldAcross 379 = .ok (.getfield 79, 3) := by decide +kernel
theorem dX12_foldAcross_382 : decode cX12_foldAcross 382 = .ok (.iload 4, 2) := by decide +kernel
theorem dX12_foldAcross_384 : decode cX12_foldAcross 384 = .ok (.iload 12, 2) := by decide +kernel
theorem dX12_foldAcross_386 : decode cX12_foldAcross 386 = .ok (.iastore, 1) := by decide +kernel
theorem dX12_foldAcross_387 : decode cX12_foldAcross 387 = .ok (.aload_n 0, 1) := by decide +kernel
theorem dX12_foldAcross_388 : decode cX12_foldAcross 388 = .ok (.getfield 82, 3) := by decide +kernel
theorem dX12_foldAcross_391 : decode cX12_foldAcross 391 = .ok (.iload 4, 2) := by decide +kernel
theorem dX12_foldAcross_393 : decode cX12_foldAcross 393 = .ok (.iload 13, 2) := by decide +kernel
theorem dX12_foldAcross_395 : decode cX12_foldAcross 395 = .ok (.iastore, 1) := by decide +kernel
theorem dX12_foldAcross_396 : decode cX12_foldAcross 396 = .ok (.aload_n 0, 1) := by decide +kernel
theorem dX12_foldAcross_397 : decode cX12_foldAcross 397 = .ok (.getfield 85, 3) := by decide +kernel
theorem dX12_foldAcross_400 : decode cX12_foldAcross 400 = .ok (.iload 4, 2) := by decide +kernel
theorem dX12_foldAcross_402 : decode cX12_foldAcross 402 = .ok (.iload 14, 2) := by decide +kernel
theorem dX12_foldAcross_404 : decode cX12_foldAcross 404 = .ok (.iastore, 1) := by decide +kernel
theorem dX12_foldAcross_405 : decode cX12_foldAcross 405 = .ok (.aload_n 0, 1) := by decide +kernel
theorem dX12_foldAcross_406 : decode cX12_foldAcross 406 = .ok (.getfield 88, 3) := by decide +kernel
theorem dX12_foldAcross_409 : decode cX12_foldAcross 409 = .ok (.iload 4, 2) := by decide +kernel
theorem dX12_foldAcross_411 : decode cX12_foldAcross 411 = .ok (.iload 15, 2) := by decide +kernel
theorem dX12_foldAcross_413 : decode cX12_foldAcross 413 = .ok (.iastore, 1) := by decide +kernel
theorem dX12_foldAcross_414 : decode cX12_foldAcross 414 = .ok (.aload_n 0, 1) := by decide +kernel
theorem dX12_foldAcross_415 : decode cX12_foldAcross 415 = .ok (.getfield 91, 3) := by decide +kernel
theorem dX12_foldAcross_418 : decode cX12_foldAcross 418 = .ok (.iload 4, 2) := by decide +kernel
theorem dX12_foldAcross_420 : decode cX12_foldAcross 420 = .ok (.iload 9, 2) := by decide +kernel
theorem dX12_foldAcross_422 : decode cX12_foldAcross 422 = .ok (.iastore, 1) := by decide +kernel
theorem dX12_foldAcross_423 : decode cX12_foldAcross 423 = .ok (.iconst 1, 1) := by decide +kernel
theorem dX12_foldAcross_424 : decode cX12_foldAcross 424 = .ok (.ireturn, 1) := by decide +kernel
theorem dX12_foldOf_0 : decode cX12_foldOf 0 = .ok (.aload_n 0, 1) := by decide +kernel
theorem dX12_foldOf_1 : decode cX12_foldOf 1 = .ok (.getfield 127, 3) := by decide +kernel
theorem dX12_foldOf_4 : decode cX12_foldOf 4 = .ok (.ifCond .ne 5, 3) := by decide +kernel
theorem dX12_foldOf_7 : decode cX12_foldOf 7 = .ok (.iconst 1, 1) := by decide +kernel
theorem dX12_foldOf_8 : decode cX12_foldOf 8 = .ok (.ireturn, 1) := by decide +kernel
theorem dX12_foldOf_9 : decode cX12_foldOf 9 = .ok (.iconst 0, 1) := by decide +kernel
theorem dX12_foldOf_10 : decode cX12_foldOf 10 = .ok (.istore_n 1, 1) := by decide +kernel
theorem dX12_foldOf_11 : decode cX12_foldOf 11 = .ok (.iload_n 1, 1) := by decide +kernel
theorem dX12_foldOf_12 : decode cX12_foldOf 12 = .ok (.aload_n 0, 1) := by decide +kernel
theorem dX12_foldOf_13 : decode cX12_foldOf 13 = .ok (.getfield 127, 3) := by decide +kernel
theorem dX12_foldOf_16 : decode cX12_foldOf 16 = .ok (.if_icmp .ge 16, 3) := by decide +kernel
theorem dX12_foldOf_19 : decode cX12_foldOf 19 = .ok (.aload_n 0, 1) := by decide +kernel
theorem dX12_foldOf_20 : decode cX12_foldOf 20 = .ok (.getfield 73, 3) := by decide +kernel
theorem dX12_foldOf_23 : decode cX12_foldOf 23 = .ok (.iload_n 1, 1) := by decide +kernel
theorem dX12_foldOf_24 : decode cX12_foldOf 24 = .ok (.iconst 0, 1) := by decide +kernel
theorem dX12_foldOf_25 : decode cX12_foldOf 25 = .ok (.iastore, 1) := by decide +kernel
theorem dX12_foldOf_26 : decode cX12_foldOf 26 = .ok (.iinc 1 1, 3) := by decide +kernel
theorem dX12_foldOf_29 : decode cX12_foldOf 29 = .ok (.goto (-18), 3) := by decide +kernel
theorem dX12_foldOf_32 : decode cX12_foldOf 32 = .ok (.aload_n 0, 1) := by decide +kernel
theorem dX12_foldOf_33 : decode cX12_foldOf 33 = .ok (.getfield 73, 3) := by decide +kernel
theorem dX12_foldOf_36 : decode cX12_foldOf 36 = .ok (.iconst 0, 1) := by decide +kernel
theorem dX12_foldOf_37 : decode cX12_foldOf 37 = .ok (.iconst 1, 1) := by decide +kernel
theorem dX12_foldOf_38 : decode cX12_foldOf 38 = .ok (.iastore, 1) := by decide +kernel
theorem dX12_foldOf_39 : decode cX12_foldOf 39 = .ok (.aload_n 0, 1) := by decide +kernel
theorem dX12_foldOf_40 : decode cX12_foldOf 40 = .ok (.getfield 76, 3) := by decide +kernel
theorem dX12_foldOf_43 : decode cX12_foldOf 43 = .ok (.iconst 0, 1) := by decide +kernel
theorem dX12_foldOf_44 : decode cX12_foldOf 44 = .ok (.iconst 0, 1) := by decide +kernel
theorem dX12_foldOf_45 : decode cX12_foldOf 45 = .ok (.iastore, 1) := by decide +kernel
theorem dX12_foldOf_46 : decode cX12_foldOf 46 = .ok (.aload_n 0, 1) := by decide +kernel
theorem dX12_foldOf_47 : decode cX12_foldOf 47 = .ok (.getfield 79, 3) := by decide +kernel
theorem dX12_foldOf_50 : decode cX12_foldOf 50 = .ok (.iconst 0, 1) := by decide +kernel
theorem dX12_foldOf_51 : decode cX12_foldOf 51 = .ok (.iconst 0, 1) := by decide +kernel
theorem dX12_foldOf_52 : decode cX12_foldOf 52 = .ok (.iastore, 1) := by decide +kernel
theorem dX12_foldOf_53 : decode cX12_foldOf 53 = .ok (.aload_n 0, 1) := by decide +kernel
theorem dX12_foldOf_54 : decode cX12_foldOf 54 = .ok (.getfield 82, 3) := by decide +kernel
theorem dX12_foldOf_57 : decode cX12_foldOf 57 = .ok (.iconst 0, 1) := by decide +kernel
theorem dX12_foldOf_58 : decode cX12_foldOf 58 = .ok (.iconst 0, 1) := by decide +kernel
theorem dX12_foldOf_59 : decode cX12_foldOf 59 = .ok (.iastore, 1) := by decide +kernel
theorem dX12_foldOf_60 : decode cX12_foldOf 60 = .ok (.aload_n 0, 1) := by decide +kernel
theorem dX12_foldOf_61 : decode cX12_foldOf 61 = .ok (.getfield 85, 3) := by decide +kernel
theorem dX12_foldOf_64 : decode cX12_foldOf 64 = .ok (.iconst 0, 1) := by decide +kernel
theorem dX12_foldOf_65 : decode cX12_foldOf 65 = .ok (.iconst 0, 1) := by decide +kernel
theorem dX12_foldOf_66 : decode cX12_foldOf 66 = .ok (.iastore, 1) := by decide +kernel
theorem dX12_foldOf_67 : decode cX12_foldOf 67 = .ok (.aload_n 0, 1) := by decide +kernel
theorem dX12_foldOf_68 : decode cX12_foldOf 68 = .ok (.getfield 88, 3) := by decide +kernel
theorem dX12_foldOf_71 : decode cX12_foldOf 71 = .ok (.iconst 0, 1) := by decide +kernel
theorem dX12_foldOf_72 : decode cX12_foldOf 72 = .ok (.iconst 2, 1) := by decide +kernel
theorem dX12_foldOf_73 : decode cX12_foldOf 73 = .ok (.iastore, 1) := by decide +kernel
theorem dX12_foldOf_74 : decode cX12_foldOf 74 = .ok (.aload_n 0, 1) := by decide +kernel
theorem dX12_foldOf_75 : decode cX12_foldOf 75 = .ok (.getfield 91, 3) := by decide +kernel
theorem dX12_foldOf_78 : decode cX12_foldOf 78 = .ok (.iconst 0, 1) := by decide +kernel
theorem dX12_foldOf_79 : decode cX12_foldOf 79 = .ok (.iconst 4, 1) := by decide +kernel
theorem dX12_foldOf_80 : decode cX12_foldOf 80 = .ok (.iastore, 1) := by decide +kernel
theorem dX12_foldOf_81 : decode cX12_foldOf 81 = .ok (.iconst 1, 1) := by decide +kernel
theorem dX12_foldOf_82 : decode cX12_foldOf 82 = .ok (.istore_n 1, 1) := by decide +kernel
theorem dX12_foldOf_83 : decode cX12_foldOf 83 = .ok (.iconst 0, 1) := by decide +kernel
theorem dX12_foldOf_84 : decode cX12_foldOf 84 = .ok (.istore_n 2, 1) := by decide +kernel
theorem dX12_foldOf_85 : decode cX12_foldOf 85 = .ok (.iconst 1, 1) := by decide +kernel
theorem dX12_foldOf_86 : decode cX12_foldOf 86 = .ok (.istore_n 3, 1) := by decide +kernel
theorem dX12_foldOf_87 : decode cX12_foldOf 87 = .ok (.iload_n 3, 1) := by decide +kernel
theorem dX12_foldOf_88 : decode cX12_foldOf 88 = .ok (.ifCond .eq 116, 3) := by decide +kernel
theorem dX12_foldOf_91 : decode cX12_foldOf 91 = .ok (.iconst 0, 1) := by decide +kernel
theorem dX12_foldOf_92 : decode cX12_foldOf 92 = .ok (.istore_n 3, 1) := by decide +kernel
theorem dX12_foldOf_93 : decode cX12_foldOf 93 = .ok (.iconst 0, 1) := by decide +kernel
theorem dX12_foldOf_94 : decode cX12_foldOf 94 = .ok (.istore 4, 2) := by decide +kernel
theorem dX12_foldOf_96 : decode cX12_foldOf 96 = .ok (.iload 4, 2) := by decide +kernel
theorem dX12_foldOf_98 : decode cX12_foldOf 98 = .ok (.iconst 4, 1) := by decide +kernel
theorem dX12_foldOf_99 : decode cX12_foldOf 99 = .ok (.aload_n 0, 1) := by decide +kernel
theorem dX12_foldOf_100 : decode cX12_foldOf 100 = .ok (.getfield 127, 3) := by decide +kernel
theorem dX12_foldOf_103 : decode cX12_foldOf 103 = .ok (.imul, 1) := by decide +kernel
theorem dX12_foldOf_104 : decode cX12_foldOf 104 = .ok (.if_icmp .ge 97, 3) := by decide +kernel
theorem dX12_foldOf_107 : decode cX12_foldOf 107 = .ok (.aload_n 0, 1) := by decide +kernel
theorem dX12_foldOf_108 : decode cX12_foldOf 108 = .ok (.getfield 73, 3) := by decide +kernel
theorem dX12_foldOf_111 : decode cX12_foldOf 111 = .ok (.iload 4, 2) := by decide +kernel
theorem dX12_foldOf_113 : decode cX12_foldOf 113 = .ok (.iconst 4, 1) := by decide +kernel
theorem dX12_foldOf_114 : decode cX12_foldOf 114 = .ok (.idiv, 1) := by decide +kernel
theorem dX12_foldOf_115 : decode cX12_foldOf 115 = .ok (.iaload, 1) := by decide +kernel
theorem dX12_foldOf_116 : decode cX12_foldOf 116 = .ok (.iconst 1, 1) := by decide +kernel
theorem dX12_foldOf_117 : decode cX12_foldOf 117 = .ok (.if_icmp .ne 78, 3) := by decide +kernel
theorem dX12_foldOf_120 : decode cX12_foldOf 120 = .ok (.aload_n 0, 1) := by decide +kernel
theorem dX12_foldOf_121 : decode cX12_foldOf 121 = .ok (.iload 4, 2) := by decide +kernel
theorem dX12_foldOf_123 : decode cX12_foldOf 123 = .ok (.iconst 4, 1) := by decide +kernel
theorem dX12_foldOf_124 : decode cX12_foldOf 124 = .ok (.idiv, 1) := by decide +kernel
theorem dX12_foldOf_125 : decode cX12_foldOf 125 = .ok (.iload 4, 2) := by decide +kernel
theorem dX12_foldOf_127 : decode cX12_foldOf 127 = .ok (.iconst 4, 1) := by decide +kernel
theorem dX12_foldOf_128 : decode cX12_foldOf 128 = .ok (.irem, 1) := by decide +kernel
theorem dX12_foldOf_129 : decode cX12_foldOf 129 = .ok (.invokevirtual 269, 3) := by decide +kernel
theorem dX12_foldOf_132 : decode cX12_foldOf 132 = .ok (.ifCond .eq 63, 3) := by decide +kernel
theorem dX12_foldOf_135 : decode cX12_foldOf 135 = .ok (.aload_n 0, 1) := by decide +kernel
theorem dX12_foldOf_136 : decode cX12_foldOf 136 = .ok (.iload 4, 2) := by decide +kernel
theorem dX12_foldOf_138 : decode cX12_foldOf 138 = .ok (.iconst 4, 1) := by decide +kernel
theorem dX12_foldOf_139 : decode cX12_foldOf 139 = .ok (.idiv, 1) := by decide +kernel
theorem dX12_foldOf_140 : decode cX12_foldOf 140 = .ok (.iload 4, 2) := by decide +kernel
theorem dX12_foldOf_142 : decode cX12_foldOf 142 = .ok (.iconst 4, 1) := by decide +kernel
theorem dX12_foldOf_143 : decode cX12_foldOf 143 = .ok (.irem, 1) := by decide +kernel
theorem dX12_foldOf_144 : decode cX12_foldOf 144 = .ok (.invokevirtual 282, 3) := by decide +kernel
theorem dX12_foldOf_147 : decode cX12_foldOf 147 = .ok (.istore 5, 2) := by decide +kernel
theorem dX12_foldOf_149 : decode cX12_foldOf 149 = .ok (.iload_n 2, 1) := by decide +kernel
theorem dX12_foldOf_150 : decode cX12_foldOf 150 = .ok (.ifCond .ne 9, 3) := by decide +kernel
theorem dX12_foldOf_153 : decode cX12_foldOf 153 = .ok (.iload 5, 2) := by decide +kernel
theorem dX12_foldOf_155 : decode cX12_foldOf 155 = .ok (.iconst 2, 1) := by decide +kernel
theorem dX12_foldOf_156 : decode cX12_foldOf 156 = .ok (.if_icmp .ne 7, 3) := by decide +kernel
theorem dX12_foldOf_159 : decode cX12_foldOf 159 = .ok (.iconst 1, 1) := by decide +kernel
theorem dX12_foldOf_160 : decode cX12_foldOf 160 = .ok (.goto 4, 3) := by decide +kernel
theorem dX12_foldOf_163 : decode cX12_foldOf 163 = .ok (.iconst 0, 1) := by decide +kernel
theorem dX12_foldOf_164 : decode cX12_foldOf 164 = .ok (.istore_n 2, 1) := by decide +kernel
theorem dX12_foldOf_165 : decode cX12_foldOf 165 = .ok (.iload_n 1, 1) := by decide +kernel
theorem dX12_foldOf_166 : decode cX12_foldOf 166 = .ok (.iload 5, 2) := by decide +kernel
theorem dX12_foldOf_168 : decode cX12_foldOf 168 = .ok (.iconst 1, 1) := by decide +kernel
theorem dX12_foldOf_169 : decode cX12_foldOf 169 = .ok (.if_icmp .ne 7, 3) := by decide +kernel
theorem dX12_foldOf_172 : decode cX12_foldOf 172 = .ok (.iconst 1, 1) := by decide +kernel
theorem dX12_foldOf_173 : decode cX12_foldOf 173 = .ok (.goto 4, 3) := by decide +kernel
theorem dX12_foldOf_176 : decode cX12_foldOf 176 = .ok (.iconst 0, 1) := by decide +kernel
theorem dX12_foldOf_177 : decode cX12_foldOf 177 = .ok (.iadd, 1) := by decide +kernel
theorem dX12_foldOf_178 : decode cX12_foldOf 178 = .ok (.istore_n 1, 1) := by decide +kernel
theorem dX12_foldOf_179 : decode cX12_foldOf 179 = .ok (.iload_n 3, 1) := by decide +kernel
theorem dX12_foldOf_180 : decode cX12_foldOf 180 = .ok (.ifCond .ne 9, 3) := by decide +kernel
theorem dX12_foldOf_183 : decode cX12_foldOf 183 = .ok (.iload 5, 2) := by decide +kernel
theorem dX12_foldOf_185 : decode cX12_foldOf 185 = .ok (.iconst 1, 1) := by decide +kernel
theorem dX12_foldOf_186 : decode cX12_foldOf 186 = .ok (.if_icmp .ne 7, 3) := by decide +kernel
theorem dX12_foldOf_189 : decode cX12_foldOf 189 = .ok (.iconst 1, 1) := by decide +kernel
theorem dX12_foldOf_190 : decode cX12_foldOf 190 = .ok (.goto 4, 3) := by decide +kernel
theorem dX12_foldOf_193 : decode cX12_foldOf 193 = .ok (.iconst 0, 1) := by decide +kernel
theorem dX12_foldOf_194 : decode cX12_foldOf 194 = .ok (.istore_n 3, 1) := by decide +kernel
theorem dX12_foldOf_195 : decode cX12_foldOf 195 = .ok (.iinc 4 1, 3) := by decide +kernel
theorem dX12_foldOf_198 : decode cX12_foldOf 198 = .ok (.goto (-102), 3) := by decide +kernel
theorem dX12_foldOf_201 : decode cX12_foldOf 201 = .ok (.goto (-114), 3) := by decide +kernel
theorem dX12_foldOf_204 : decode cX12_foldOf 204 = .ok (.iload_n 1, 1) := by decide +kernel
theorem dX12_foldOf_205 : decode cX12_foldOf 205 = .ok (.aload_n 0, 1) := by decide +kernel
theorem dX12_foldOf_206 : decode cX12_foldOf 206 = .ok (.getfield 127, 3) := by decide +kernel
theorem dX12_foldOf_209 : decode cX12_foldOf 209 = .ok (.if_icmp .ge 5, 3) := by decide +kernel
theorem dX12_foldOf_212 : decode cX12_foldOf 212 = .ok (.iconst 1, 1) := by decide +kernel
theorem dX12_foldOf_213 : decode cX12_foldOf 213 = .ok (.ireturn, 1) := by decide +kernel
theorem dX12_foldOf_214 : decode cX12_foldOf 214 = .ok (.iload_n 2, 1) := by decide +kernel
theorem dX12_foldOf_215 : decode cX12_foldOf 215 = .ok (.ifCond .eq 5, 3) := by decide +kernel
theorem dX12_foldOf_218 : decode cX12_foldOf 218 = .ok (.iconst 2, 1) := by decide +kernel
theorem dX12_foldOf_219 : decode cX12_foldOf 219 = .ok (.ireturn, 1) := by decide +kernel
theorem dX12_foldOf_220 : decode cX12_foldOf 220 = .ok (.iconst 0, 1) := by decide +kernel
theorem dX12_foldOf_221 : decode cX12_foldOf 221 = .ok (.istore 4, 2) := by decide +kernel
theorem dX12_foldOf_223 : decode cX12_foldOf 223 = .ok (.iload 4, 2) := by decide +kernel
theorem dX12_foldOf_225 : decode cX12_foldOf 225 = .ok (.aload_n 0, 1) := by decide +kernel
theorem dX12_foldOf_226 : decode cX12_foldOf 226 = .ok (.getfield 127, 3) := by decide +kernel
theorem dX12_foldOf_229 : decode cX12_foldOf 229 = .ok (.if_icmp .ge 78, 3) := by decide +kernel
theorem dX12_foldOf_232 : decode cX12_foldOf 232 = .ok (.iconst 0, 1) := by decide +kernel
theorem dX12_foldOf_233 : decode cX12_foldOf 233 = .ok (.istore 5, 2) := by decide +kernel
theorem dX12_foldOf_235 : decode cX12_foldOf 235 = .ok (.iload 5, 2) := by decide +kernel
theorem dX12_foldOf_237 : decode cX12_foldOf 237 = .ok (.iload 4, 2) := by decide +kernel
theorem dX12_foldOf_239 : decode cX12_foldOf 239 = .ok (.if_icmp .ge 62, 3) := by decide +kernel
theorem dX12_foldOf_242 : decode cX12_foldOf 242 = .ok (.aload_n 0, 1) := by decide +kernel
theorem dX12_foldOf_243 : decode cX12_foldOf 243 = .ok (.getfield 76, 3) := by decide +kernel
theorem dX12_foldOf_246 : decode cX12_foldOf 246 = .ok (.iload 4, 2) := by decide +kernel
theorem dX12_foldOf_248 : decode cX12_foldOf 248 = .ok (.iaload, 1) := by decide +kernel
theorem dX12_foldOf_249 : decode cX12_foldOf 249 = .ok (.aload_n 0, 1) := by decide +kernel
theorem dX12_foldOf_250 : decode cX12_foldOf 250 = .ok (.getfield 76, 3) := by decide +kernel
theorem dX12_foldOf_253 : decode cX12_foldOf 253 = .ok (.iload 5, 2) := by decide +kernel
theorem dX12_foldOf_255 : decode cX12_foldOf 255 = .ok (.iaload, 1) := by decide +kernel
theorem dX12_foldOf_256 : decode cX12_foldOf 256 = .ok (.if_icmp .ne 39, 3) := by decide +kernel
theorem dX12_foldOf_259 : decode cX12_foldOf 259 = .ok (.aload_n 0, 1) := by decide +kernel
theorem dX12_foldOf_260 : decode cX12_foldOf 260 = .ok (.getfield 79, 3) := by decide +kernel
theorem dX12_foldOf_263 : decode cX12_foldOf 263 = .ok (.iload 4, 2) := by decide +kernel
theorem dX12_foldOf_265 : decode cX12_foldOf 265 = .ok (.iaload, 1) := by decide +kernel
theorem dX12_foldOf_266 : decode cX12_foldOf 266 = .ok (.aload_n 0, 1) := by decide +kernel
theorem dX12_foldOf_267 : decode cX12_foldOf 267 = .ok (.getfield 79, 3) := by decide +kernel
theorem dX12_foldOf_270 : decode cX12_foldOf 270 = .ok (.iload 5, 2) := by decide +kernel
theorem dX12_foldOf_272 : decode cX12_foldOf 272 = .ok (.iaload, 1) := by decide +kernel
theorem dX12_foldOf_273 : decode cX12_foldOf 273 = .ok (.if_icmp .ne 22, 3) := by decide +kernel
theorem dX12_foldOf_276 : decode cX12_foldOf 276 = .ok (.aload_n 0, 1) := by decide +kernel
theorem dX12_foldOf_277 : decode cX12_foldOf 277 = .ok (.getfield 82, 3) := by decide +kernel
theorem dX12_foldOf_280 : decode cX12_foldOf 280 = .ok (.iload 4, 2) := by decide +kernel
theorem dX12_foldOf_282 : decode cX12_foldOf 282 = .ok (.iaload, 1) := by decide +kernel
theorem dX12_foldOf_283 : decode cX12_foldOf 283 = .ok (.aload_n 0, 1) := by decide +kernel
theorem dX12_foldOf_284 : decode cX12_foldOf 284 = .ok (.getfield 82, 3) := by decide +kernel
theorem dX12_foldOf_287 : decode cX12_foldOf 287 = .ok (.iload 5, 2) := by decide +kernel
theorem dX12_foldOf_289 : decode cX12_foldOf 289 = .ok (.iaload, 1) := by decide +kernel
theorem dX12_foldOf_290 : decode cX12_foldOf 290 = .ok (.if_icmp .ne 5, 3) := by decide +kernel
theorem dX12_foldOf_293 : decode cX12_foldOf 293 = .ok (.iconst 3, 1) := by decide +kernel
theorem dX12_foldOf_294 : decode cX12_foldOf 294 = .ok (.ireturn, 1) := by decide +kernel
theorem dX12_foldOf_295 : decode cX12_foldOf 295 = .ok (.iinc 5 1, 3) := by decide +kernel
theorem dX12_foldOf_298 : decode cX12_foldOf 298 = .ok (.goto (-63), 3) := by decide +kernel
theorem dX12_foldOf_301 : decode cX12_foldOf 301 = .ok (.iinc 4 1, 3) := by decide +kernel
theorem dX12_foldOf_304 : decode cX12_foldOf 304 = .ok (.goto (-81), 3) := by decide +kernel
theorem dX12_foldOf_307 : decode cX12_foldOf 307 = .ok (.iconst 0, 1) := by decide +kernel
theorem dX12_foldOf_308 : decode cX12_foldOf 308 = .ok (.ireturn, 1) := by decide +kernel
theorem dX12_fold_0 : decode cX12_fold 0 = .ok (.aload_n 0, 1) := by decide +kernel
theorem dX12_fold_1 : decode cX12_fold 1 = .ok (.iconst 0, 1) := by decide +kernel
theorem dX12_fold_2 : decode cX12_fold 2 = .ok (.putfield 113, 3) := by decide +kernel
theorem dX12_fold_5 : decode cX12_fold 5 = .ok (.aload_n 0, 1) := by decide +kernel
theorem dX12_fold_6 : decode cX12_fold 6 = .ok (.invokevirtual 285, 3) := by decide +kernel
theorem dX12_fold_9 : decode cX12_fold 9 = .ok (.ireturn, 1) := by decide +kernel
theorem dX12_where_0 : decode cX12_where 0 = .ok (.aload_n 0, 1) := by decide +kernel
theorem dX12_where_1 : decode cX12_where 1 = .ok (.iconst 0, 1) := by decide +kernel
theorem dX12_where_2 : decode cX12_where 2 = .ok (.putfield 113, 3) := by decide +kernel
theorem dX12_where_5 : decode cX12_where 5 = .ok (.iload_n 1, 1) := by decide +kernel
theorem dX12_where_6 : decode cX12_where 6 = .ok (.iconst 0, 1) := by decide +kernel
theorem dX12_where_7 : decode cX12_where 7 = .ok (.aload_n 0, 1) := by decide +kernel
theorem dX12_where_8 : decode cX12_where 8 = .ok (.getfield 127, 3) := by decide +kernel
theorem dX12_where_11 : decode cX12_where 11 = .ok (.iconst 1, 1) := by decide +kernel
theorem dX12_where_12 : decode cX12_where 12 = .ok (.isub, 1) := by decide +kernel
theorem dX12_where_13 : decode cX12_where 13 = .ok (.invokestatic 139, 3) := by decide +kernel
theorem dX12_where_16 : decode cX12_where 16 = .ok (.ifCond .eq 12, 3) := by decide +kernel
theorem dX12_where_19 : decode cX12_where 19 = .ok (.iload_n 2, 1) := by decide +kernel
theorem dX12_where_20 : decode cX12_where 20 = .ok (.iconst 0, 1) := by decide +kernel
theorem dX12_where_21 : decode cX12_where 21 = .ok (.iconst 4, 1) := by decide +kernel
theorem dX12_where_22 : decode cX12_where 22 = .ok (.invokestatic 139, 3) := by decide +kernel
theorem dX12_where_25 : decode cX12_where 25 = .ok (.ifCond .ne 6, 3) := by decide +kernel
theorem dX12_where_28 : decode cX12_where 28 = .ok (.bipush (-3), 2) := by decide +kernel
theorem dX12_where_30 : decode cX12_where 30 = .ok (.ireturn, 1) := by decide +kernel
theorem dX12_where_31 : decode cX12_where 31 = .ok (.aload_n 0, 1) := by decide +kernel
theorem dX12_where_32 : decode cX12_where 32 = .ok (.invokevirtual 285, 3) := by decide +kernel
theorem dX12_where_35 : decode cX12_where 35 = .ok (.ifCond .eq 6, 3) := by decide +kernel
theorem dX12_where_38 : decode cX12_where 38 = .ok (.bipush (-4), 2) := by decide +kernel
theorem dX12_where_40 : decode cX12_where 40 = .ok (.ireturn, 1) := by decide +kernel
theorem dX12_where_41 : decode cX12_where 41 = .ok (.iload_n 2, 1) := by decide +kernel
theorem dX12_where_42 : decode cX12_where 42 = .ok (.ifCond .ne 12, 3) := by decide +kernel
theorem dX12_where_45 : decode cX12_where 45 = .ok (.aload_n 0, 1) := by decide +kernel
theorem dX12_where_46 : decode cX12_where 46 = .ok (.getfield 76, 3) := by decide +kernel
theorem dX12_where_49 : decode cX12_where 49 = .ok (.iload_n 1, 1) := by decide +kernel
theorem dX12_where_50 : decode cX12_where 50 = .ok (.iaload, 1) := by decide +kernel
theorem dX12_where_51 : decode cX12_where 51 = .ok (.goto 51, 3) := by decide +kernel
theorem dX12_where_54 : decode cX12_where 54 = .ok (.iload_n 2, 1) := by decide +kernel
theorem dX12_where_55 : decode cX12_where 55 = .ok (.iconst 1, 1) := by decide +kernel
theorem dX12_where_56 : decode cX12_where 56 = .ok (.if_icmp .ne 12, 3) := by decide +kernel
theorem dX12_where_59 : decode cX12_where 59 = .ok (.aload_n 0, 1) := by decide +kernel
theorem dX12_where_60 : decode cX12_where 60 = .ok (.getfield 79, 3) := by decide +kernel
theorem dX12_where_63 : decode cX12_where 63 = .ok (.iload_n 1, 1) := by decide +kernel
theorem dX12_where_64 : decode cX12_where 64 = .ok (.iaload, 1) := by decide +kernel
theorem dX12_where_65 : decode cX12_where 65 = .ok (.goto 37, 3) := by decide +kernel
theorem dX12_where_68 : decode cX12_where 68 = .ok (.iload_n 2, 1) := by decide +kernel
theorem dX12_where_69 : decode cX12_where 69 = .ok (.iconst 2, 1) := by decide +kernel
theorem dX12_where_70 : decode cX12_where 70 = .ok (.if_icmp .ne 12, 3) := by decide +kernel
theorem dX12_where_73 : decode cX12_where 73 = .ok (.aload_n 0, 1) := by decide +kernel
theorem dX12_where_74 : decode cX12_where 74 = .ok (.getfield 82, 3) := by decide +kernel
theorem dX12_where_77 : decode cX12_where 77 = .ok (.iload_n 1, 1) := by decide +kernel
theorem dX12_where_78 : decode cX12_where 78 = .ok (.iaload, 1) := by decide +kernel
theorem dX12_where_79 : decode cX12_where 79 = .ok (.goto 23, 3) := by decide +kernel
theorem dX12_where_82 : decode cX12_where 82 = .ok (.iload_n 2, 1) := by decide +kernel
theorem dX12_where_83 : decode cX12_where 83 = .ok (.iconst 3, 1) := by decide +kernel
theorem dX12_where_84 : decode cX12_where 84 = .ok (.if_icmp .ne 12, 3) := by decide +kernel
theorem dX12_where_87 : decode cX12_where 87 = .ok (.aload_n 0, 1) := by decide +kernel
theorem dX12_where_88 : decode cX12_where 88 = .ok (.getfield 91, 3) := by decide +kernel
theorem dX12_where_91 : decode cX12_where 91 = .ok (.iload_n 1, 1) := by decide +kernel
theorem dX12_where_92 : decode cX12_where 92 = .ok (.iaload, 1) := by decide +kernel
theorem dX12_where_93 : decode cX12_where 93 = .ok (.goto 9, 3) := by decide +kernel
theorem dX12_where_96 : decode cX12_where 96 = .ok (.aload_n 0, 1) := by decide +kernel
theorem dX12_where_97 : decode cX12_where 97 = .ok (.getfield 85, 3) := by decide +kernel
theorem dX12_where_100 : decode cX12_where 100 = .ok (.iload_n 1, 1) := by decide +kernel
theorem dX12_where_101 : decode cX12_where 101 = .ok (.iaload, 1) := by decide +kernel
theorem dX12_where_102 : decode cX12_where 102 = .ok (.istore_n 3, 1) := by decide +kernel
theorem dX12_where_103 : decode cX12_where 103 = .ok (.iload_n 3, 1) := by decide +kernel
theorem dX12_where_104 : decode cX12_where 104 = .ok (.ifCond .ge 11, 3) := by decide +kernel
theorem dX12_where_107 : decode cX12_where 107 = .ok (.iload_n 3, 1) := by decide +kernel
theorem dX12_where_108 : decode cX12_where 108 = .ok (.sipush 1000, 3) := by decide +kernel
theorem dX12_where_111 : decode cX12_where 111 = .ok (.iadd, 1) := by decide +kernel
theorem dX12_where_112 : decode cX12_where 112 = .ok (.goto 4, 3) := by decide +kernel
theorem dX12_where_115 : decode cX12_where 115 = .ok (.iload_n 3, 1) := by decide +kernel
theorem dX12_where_116 : decode cX12_where 116 = .ok (.ireturn, 1) := by decide +kernel
theorem dX12_isOn_0 : decode cX12_isOn 0 = .ok (.aload_n 0, 1) := by decide +kernel
theorem dX12_isOn_1 : decode cX12_isOn 1 = .ok (.iload_n 1, 1) := by decide +kernel
theorem dX12_isOn_2 : decode cX12_isOn 2 = .ok (.iload_n 2, 1) := by decide +kernel
theorem dX12_isOn_3 : decode cX12_isOn 3 = .ok (.invokevirtual 279, 3) := by decide +kernel
theorem dX12_isOn_6 : decode cX12_isOn 6 = .ok (.istore 5, 2) := by decide +kernel
theorem dX12_isOn_8 : decode cX12_isOn 8 = .ok (.aload_n 0, 1) := by decide +kernel
theorem dX12_isOn_9 : decode cX12_isOn 9 = .ok (.iload_n 3, 1) := by decide +kernel
theorem dX12_isOn_10 : decode cX12_isOn 10 = .ok (.iload 4, 2) := by decide +kernel
theorem dX12_isOn_12 : decode cX12_isOn 12 = .ok (.invokevirtual 279, 3) := by decide +kernel
theorem dX12_isOn_15 : decode cX12_isOn 15 = .ok (.istore 6, 2) := by decide +kernel
theorem dX12_isOn_17 : decode cX12_isOn 17 = .ok (.aload_n 0, 1) := by decide +kernel
theorem dX12_isOn_18 : decode cX12_isOn 18 = .ok (.getfield 76, 3) := by decide +kernel
theorem dX12_isOn_21 : decode cX12_isOn 21 = .ok (.iload_n 1, 1) := by decide +kernel
theorem dX12_isOn_22 : decode cX12_isOn 22 = .ok (.iaload, 1) := by decide +kernel
theorem dX12_isOn_23 : decode cX12_isOn 23 = .ok (.iload 5, 2) := by decide +kernel
theorem dX12_isOn_25 : decode cX12_isOn 25 = .ok (.iconst 0, 1) := by decide +kernel
theorem dX12_isOn_26 : decode cX12_isOn 26 = .ok (.invokestatic 154, 3) := by decide +kernel
theorem dX12_isOn_29 : decode cX12_isOn 29 = .ok (.iadd, 1) := by decide +kernel
theorem dX12_isOn_30 : decode cX12_isOn 30 = .ok (.aload_n 0, 1) := by decide +kernel
theorem dX12_isOn_31 : decode cX12_isOn 31 = .ok (.getfield 76, 3) := by decide +kernel
theorem dX12_isOn_34 : decode cX12_isOn 34 = .ok (.iload_n 3, 1) := by decide +kernel
theorem dX12_isOn_35 : decode cX12_isOn 35 = .ok (.iaload, 1) := by decide +kernel
theorem dX12_isOn_36 : decode cX12_isOn 36 = .ok (.iload 6, 2) := by decide +kernel
theorem dX12_isOn_38 : decode cX12_isOn 38 = .ok (.iconst 0, 1) := by decide +kernel
theorem dX12_isOn_39 : decode cX12_isOn 39 = .ok (.invokestatic 154, 3) := by decide +kernel
theorem dX12_isOn_42 : decode cX12_isOn 42 = .ok (.iadd, 1) := by decide +kernel
theorem dX12_isOn_43 : decode cX12_isOn 43 = .ok (.if_icmp .ne 36, 3) := by decide +kernel
theorem dX12_isOn_46 : decode cX12_isOn 46 = .ok (.aload_n 0, 1) := by decide +kernel
theorem dX12_isOn_47 : decode cX12_isOn 47 = .ok (.getfield 79, 3) := by decide +kernel
theorem dX12_isOn_50 : decode cX12_isOn 50 = .ok (.iload_n 1, 1) := by decide +kernel
theorem dX12_isOn_51 : decode cX12_isOn 51 = .ok (.iaload, 1) := by decide +kernel
theorem dX12_isOn_52 : decode cX12_isOn 52 = .ok (.iload 5, 2) := by decide +kernel
theorem dX12_isOn_54 : decode cX12_isOn 54 = .ok (.iconst 1, 1) := by decide +kernel
theorem dX12_isOn_55 : decode cX12_isOn 55 = .ok (.invokestatic 154, 3) := by decide +kernel
theorem dX12_isOn_58 : decode cX12_isOn 58 = .ok (.iadd, 1) := by decide +kernel
theorem dX12_isOn_59 : decode cX12_isOn 59 = .ok (.aload_n 0, 1) := by decide +kernel
theorem dX12_isOn_60 : decode cX12_isOn 60 = .ok (.getfield 79, 3) := by decide +kernel
theorem dX12_isOn_63 : decode cX12_isOn 63 = .ok (.iload_n 3, 1) := by decide +kernel
theorem dX12_isOn_64 : decode cX12_isOn 64 = .ok (.iaload, 1) := by decide +kernel
theorem dX12_isOn_65 : decode cX12_isOn 65 = .ok (.iload 6, 2) := by decide +kernel
theorem dX12_isOn_67 : decode cX12_isOn 67 = .ok (.iconst 1, 1) := by decide +kernel
theorem dX12_isOn_68 : decode cX12_isOn 68 = .ok (.invokestatic 154, 3) := by decide +kernel
theorem dX12_isOn_71 : decode cX12_isOn 71 = .ok (.iadd, 1) := by decide +kernel
theorem dX12_isOn_72 : decode cX12_isOn 72 = .ok (.if_icmp .ne 7, 3) := by decide +kernel
theorem dX12_isOn_75 : decode cX12_isOn 75 = .ok (.iconst 1, 1) := by decide +kernel
theorem dX12_isOn_76 : decode cX12_isOn 76 = .ok (.goto 4, 3) := by decide +kernel
theorem dX12_isOn_79 : decode cX12_isOn 79 = .ok (.iconst 0, 1) := by decide +kernel
theorem dX12_isOn_80 : decode cX12_isOn 80 = .ok (.istore 7, 2) := by decide +kernel
theorem dX12_isOn_82 : decode cX12_isOn 82 = .ok (.iload 7, 2) := by decide +kernel
theorem dX12_isOn_84 : decode cX12_isOn 84 = .ok (.ifCond .eq 36, 3) := by decide +kernel
theorem dX12_isOn_87 : decode cX12_isOn 87 = .ok (.aload_n 0, 1) := by decide +kernel
theorem dX12_isOn_88 : decode cX12_isOn 88 = .ok (.getfield 82, 3) := by decide +kernel
theorem dX12_isOn_91 : decode cX12_isOn 91 = .ok (.iload_n 1, 1) := by decide +kernel
theorem dX12_isOn_92 : decode cX12_isOn 92 = .ok (.iaload, 1) := by decide +kernel
theorem dX12_isOn_93 : decode cX12_isOn 93 = .ok (.iload 5, 2) := by decide +kernel
theorem dX12_isOn_95 : decode cX12_isOn 95 = .ok (.iconst 2, 1) := by decide +kernel
theorem dX12_isOn_96 : decode cX12_isOn 96 = .ok (.invokestatic 154, 3) := by decide +kernel
theorem dX12_isOn_99 : decode cX12_isOn 99 = .ok (.iadd, 1) := by decide +kernel
theorem dX12_isOn_100 : decode cX12_isOn 100 = .ok (.aload_n 0, 1) := by decide +kernel
theorem dX12_isOn_101 : decode cX12_isOn 101 = .ok (.getfield 82, 3) := by decide +kernel
theorem dX12_isOn_104 : decode cX12_isOn 104 = .ok (.iload_n 3, 1) := by decide +kernel
theorem dX12_isOn_105 : decode cX12_isOn 105 = .ok (.iaload, 1) := by decide +kernel
theorem dX12_isOn_106 : decode cX12_isOn 106 = .ok (.iload 6, 2) := by decide +kernel
theorem dX12_isOn_108 : decode cX12_isOn 108 = .ok (.iconst 2, 1) := by decide +kernel
theorem dX12_isOn_109 : decode cX12_isOn 109 = .ok (.invokestatic 154, 3) := by decide +kernel
theorem dX12_isOn_112 : decode cX12_isOn 112 = .ok (.iadd, 1) := by decide +kernel
theorem dX12_isOn_113 : decode cX12_isOn 113 = .ok (.if_icmp .ne 7, 3) := by decide +kernel
theorem dX12_isOn_116 : decode cX12_isOn 116 = .ok (.iconst 1, 1) := by decide +kernel
theorem dX12_isOn_117 : decode cX12_isOn 117 = .ok (.goto 4, 3) := by decide +kernel
theorem dX12_isOn_120 : decode cX12_isOn 120 = .ok (.iconst 0, 1) := by decide +kernel
theorem dX12_isOn_121 : decode cX12_isOn 121 = .ok (.istore 7, 2) := by decide +kernel
theorem dX12_isOn_123 : decode cX12_isOn 123 = .ok (.iload 7, 2) := by decide +kernel
theorem dX12_isOn_125 : decode cX12_isOn 125 = .ok (.ifCond .eq 35, 3) := by decide +kernel
theorem dX12_isOn_128 : decode cX12_isOn 128 = .ok (.aload_n 0, 1) := by decide +kernel
theorem dX12_isOn_129 : decode cX12_isOn 129 = .ok (.iload_n 1, 1) := by decide +kernel
theorem dX12_isOn_130 : decode cX12_isOn 130 = .ok (.iload_n 2, 1) := by decide +kernel
theorem dX12_isOn_131 : decode cX12_isOn 131 = .ok (.iconst 1, 1) := by decide +kernel
theorem dX12_isOn_132 : decode cX12_isOn 132 = .ok (.iadd, 1) := by decide +kernel
theorem dX12_isOn_133 : decode cX12_isOn 133 = .ok (.iconst 4, 1) := by decide +kernel
theorem dX12_isOn_134 : decode cX12_isOn 134 = .ok (.irem, 1) := by decide +kernel
theorem dX12_isOn_135 : decode cX12_isOn 135 = .ok (.invokevirtual 279, 3) := by decide +kernel
theorem dX12_isOn_138 : decode cX12_isOn 138 = .ok (.iconst 2, 1) := by decide +kernel
theorem dX12_isOn_139 : decode cX12_isOn 139 = .ok (.idiv, 1) := by decide +kernel
theorem dX12_isOn_140 : decode cX12_isOn 140 = .ok (.aload_n 0, 1) := by decide +kernel
theorem dX12_isOn_141 : decode cX12_isOn 141 = .ok (.iload_n 3, 1) := by decide +kernel
theorem dX12_isOn_142 : decode cX12_isOn 142 = .ok (.iload 4, 2) := by decide +kernel
theorem dX12_isOn_144 : decode cX12_isOn 144 = .ok (.iconst 1, 1) := by decide +kernel
theorem dX12_isOn_145 : decode cX12_isOn 145 = .ok (.iadd, 1) := by decide +kernel
theorem dX12_isOn_146 : decode cX12_isOn 146 = .ok (.iconst 4, 1) := by decide +kernel
theorem dX12_isOn_147 : decode cX12_isOn 147 = .ok (.irem, 1) := by decide +kernel
theorem dX12_isOn_148 : decode cX12_isOn 148 = .ok (.invokevirtual 279, 3) := by decide +kernel
theorem dX12_isOn_151 : decode cX12_isOn 151 = .ok (.iconst 2, 1) := by decide +kernel
theorem dX12_isOn_152 : decode cX12_isOn 152 = .ok (.idiv, 1) := by decide +kernel
theorem dX12_isOn_153 : decode cX12_isOn 153 = .ok (.if_icmp .ne 7, 3) := by decide +kernel
theorem dX12_isOn_156 : decode cX12_isOn 156 = .ok (.iconst 1, 1) := by decide +kernel
theorem dX12_isOn_157 : decode cX12_isOn 157 = .ok (.goto 4, 3) := by decide +kernel
theorem dX12_isOn_160 : decode cX12_isOn 160 = .ok (.iconst 0, 1) := by decide +kernel
theorem dX12_isOn_161 : decode cX12_isOn 161 = .ok (.ireturn, 1) := by decide +kernel
theorem dX12_closed_0 : decode cX12_closed 0 = .ok (.aload_n 0, 1) := by decide +kernel
theorem dX12_closed_1 : decode cX12_closed 1 = .ok (.iconst 0, 1) := by decide +kernel
theorem dX12_closed_2 : decode cX12_closed 2 = .ok (.putfield 113, 3) := by decide +kernel
theorem dX12_closed_5 : decode cX12_closed 5 = .ok (.aload_n 0, 1) := by decide +kernel
theorem dX12_closed_6 : decode cX12_closed 6 = .ok (.invokevirtual 285, 3) := by decide +kernel
theorem dX12_closed_9 : decode cX12_closed 9 = .ok (.ifCond .eq 5, 3) := by decide +kernel
theorem dX12_closed_12 : decode cX12_closed 12 = .ok (.iconst 0, 1) := by decide +kernel
theorem dX12_closed_13 : decode cX12_closed 13 = .ok (.ireturn, 1) := by decide +kernel
theorem dX12_closed_14 : decode cX12_closed 14 = .ok (.iconst 0, 1) := by decide +kernel
theorem dX12_closed_15 : decode cX12_closed 15 = .ok (.istore_n 1, 1) := by decide +kernel
theorem dX12_closed_16 : decode cX12_closed 16 = .ok (.iload_n 1, 1) := by decide +kernel
theorem dX12_closed_17 : decode cX12_closed 17 = .ok (.iconst 4, 1) := by decide +kernel
theorem dX12_closed_18 : decode cX12_closed 18 = .ok (.aload_n 0, 1) := by decide +kernel
theorem dX12_closed_19 : decode cX12_closed 19 = .ok (.getfield 127, 3) := by decide +kernel
theorem dX12_closed_22 : decode cX12_closed 22 = .ok (.imul, 1) := by decide +kernel
theorem dX12_closed_23 : decode cX12_closed 23 = .ok (.if_icmp .ge 72, 3) := by decide +kernel
theorem dX12_closed_26 : decode cX12_closed 26 = .ok (.iconst 0, 1) := by decide +kernel
theorem dX12_closed_27 : decode cX12_closed 27 = .ok (.istore_n 2, 1) := by decide +kernel
theorem dX12_closed_28 : decode cX12_closed 28 = .ok (.iconst 0, 1) := by decide +kernel
theorem dX12_closed_29 : decode cX12_closed 29 = .ok (.istore_n 3, 1) := by decide +kernel
theorem dX12_closed_30 : decode cX12_closed 30 = .ok (.iload_n 3, 1) := by decide +kernel
theorem dX12_closed_31 : decode cX12_closed 31 = .ok (.iconst 4, 1) := by decide +kernel
theorem dX12_closed_32 : decode cX12_closed 32 = .ok (.aload_n 0, 1) := by decide +kernel
theorem dX12_closed_33 : decode cX12_closed 33 = .ok (.getfield 127, 3) := by decide +kernel
theorem dX12_closed_36 : decode cX12_closed 36 = .ok (.imul, 1) := by decide +kernel
theorem dX12_closed_37 : decode cX12_closed 37 = .ok (.if_icmp .ge 45, 3) := by decide +kernel
theorem dX12_closed_40 : decode cX12_closed 40 = .ok (.iload_n 2, 1) := by decide +kernel
theorem dX12_closed_41 : decode cX12_closed 41 = .ok (.iload_n 1, 1) := by decide +kernel
theorem dX12_closed_42 : decode cX12_closed 42 = .ok (.iconst 4, 1) := by decide +kernel
theorem dX12_closed_43 : decode cX12_closed 43 = .ok (.idiv, 1) := by decide +kernel
theorem dX12_closed_44 : decode cX12_closed 44 = .ok (.iload_n 3, 1) := by decide +kernel
theorem dX12_closed_45 : decode cX12_closed 45 = .ok (.iconst 4, 1) := by decide +kernel
theorem dX12_closed_46 : decode cX12_closed 46 = .ok (.idiv, 1) := by decide +kernel
theorem dX12_closed_47 : decode cX12_closed 47 = .ok (.if_icmp .eq 26, 3) := by decide +kernel
theorem dX12_closed_50 : decode cX12_closed 50 = .ok (.aload_n 0, 1) := by decide +kernel
theorem dX12_closed_51 : decode cX12_closed 51 = .ok (.iload_n 1, 1) := by decide +kernel
theorem dX12_closed_52 : decode cX12_closed 52 = .ok (.iconst 4, 1) := by decide +kernel
theorem dX12_closed_53 : decode cX12_closed 53 = .ok (.idiv, 1) := by decide +kernel
theorem dX12_closed_54 : decode cX12_closed 54 = .ok (.iload_n 1, 1) := by decide +kernel
theorem dX12_closed_55 : decode cX12_closed 55 = .ok (.iconst 4, 1) := by decide +kernel
theorem dX12_closed_56 : decode cX12_closed 56 = .ok (.irem, 1) := by decide +kernel
theorem dX12_closed_57 : decode cX12_closed 57 = .ok (.iload_n 3, 1) := by decide +kernel
theorem dX12_closed_58 : decode cX12_closed 58 = .ok (.iconst 4, 1) := by decide +kernel
theorem dX12_closed_59 : decode cX12_closed 59 = .ok (.idiv, 1) := by decide +kernel
theorem dX12_closed_60 : decode cX12_closed 60 = .ok (.iload_n 3, 1) := by decide +kernel
theorem dX12_closed_61 : decode cX12_closed 61 = .ok (.iconst 4, 1) := by decide +kernel
theorem dX12_closed_62 : decode cX12_closed 62 = .ok (.irem, 1) := by decide +kernel
theorem dX12_closed_63 : decode cX12_closed 63 = .ok (.invokevirtual 288, 3) := by decide +kernel
theorem dX12_closed_66 : decode cX12_closed 66 = .ok (.ifCond .eq 7, 3) := by decide +kernel
theorem dX12_closed_69 : decode cX12_closed 69 = .ok (.iconst 1, 1) := by decide +kernel
theorem dX12_closed_70 : decode cX12_closed 70 = .ok (.goto 4, 3) := by decide +kernel
theorem dX12_closed_73 : decode cX12_closed 73 = .ok (.iconst 0, 1) := by decide +kernel
theorem dX12_closed_74 : decode cX12_closed 74 = .ok (.iadd, 1) := by decide +kernel
theorem dX12_closed_75 : decode cX12_closed 75 = .ok (.istore_n 2, 1) := by decide +kernel
theorem dX12_closed_76 : decode cX12_closed 76 = .ok (.iinc 3 1, 3) := by decide +kernel
theorem dX12_closed_79 : decode cX12_closed 79 = .ok (.goto (-49), 3) := by decide +kernel
theorem dX12_closed_82 : decode cX12_closed 82 = .ok (.iload_n 2, 1) := by decide +kernel
theorem dX12_closed_83 : decode cX12_closed 83 = .ok (.iconst 1, 1) := by decide +kernel
theorem dX12_closed_84 : decode cX12_closed 84 = .ok (.if_icmp .eq 5, 3) := by decide +kernel
theorem dX12_closed_87 : decode cX12_closed 87 = .ok (.iconst 0, 1) := by decide +kernel
theorem dX12_closed_88 : decode cX12_closed 88 = .ok (.ireturn, 1) := by decide +kernel
theorem dX12_closed_89 : decode cX12_closed 89 = .ok (.iinc 1 1, 3) := by decide +kernel
theorem dX12_closed_92 : decode cX12_closed 92 = .ok (.goto (-76), 3) := by decide +kernel
theorem dX12_closed_95 : decode cX12_closed 95 = .ok (.iconst 1, 1) := by decide +kernel
theorem dX12_closed_96 : decode cX12_closed 96 = .ok (.ireturn, 1) := by decide +kernel
theorem dX12_writeForm_0 : decode cX12_writeForm 0 = .ok (.bipush 60, 2) := by decide +kernel
theorem dX12_writeForm_2 : decode cX12_writeForm 2 = .ok (.istore_n 1, 1) := by decide +kernel
theorem dX12_writeForm_3 : decode cX12_writeForm 3 = .ok (.bipush 60, 2) := by decide +kernel
theorem dX12_writeForm_5 : decode cX12_writeForm 5 = .ok (.istore_n 2, 1) := by decide +kernel
theorem dX12_writeForm_6 : decode cX12_writeForm 6 = .ok (.iconst 0, 1) := by decide +kernel
theorem dX12_writeForm_7 : decode cX12_writeForm 7 = .ok (.istore_n 3, 1) := by decide +kernel
theorem dX12_writeForm_8 : decode cX12_writeForm 8 = .ok (.iload_n 3, 1) := by decide +kernel
theorem dX12_writeForm_9 : decode cX12_writeForm 9 = .ok (.aload_n 0, 1) := by decide +kernel
theorem dX12_writeForm_10 : decode cX12_writeForm 10 = .ok (.getfield 127, 3) := by decide +kernel
theorem dX12_writeForm_13 : decode cX12_writeForm 13 = .ok (.if_icmp .ge 51, 3) := by decide +kernel
theorem dX12_writeForm_16 : decode cX12_writeForm 16 = .ok (.aload_n 0, 1) := by decide +kernel
theorem dX12_writeForm_17 : decode cX12_writeForm 17 = .ok (.getfield 19, 3) := by decide +kernel
theorem dX12_writeForm_20 : decode cX12_writeForm 20 = .ok (.iload_n 3, 1) := by decide +kernel
theorem dX12_writeForm_21 : decode cX12_writeForm 21 = .ok (.iaload, 1) := by decide +kernel
theorem dX12_writeForm_22 : decode cX12_writeForm 22 = .ok (.iload_n 1, 1) := by decide +kernel
theorem dX12_writeForm_23 : decode cX12_writeForm 23 = .ok (.if_icmp .ge 12, 3) := by decide +kernel
theorem dX12_writeForm_26 : decode cX12_writeForm 26 = .ok (.aload_n 0, 1) := by decide +kernel
theorem dX12_writeForm_27 : decode cX12_writeForm 27 = .ok (.getfield 19, 3) := by decide +kernel
theorem dX12_writeForm_30 : decode cX12_writeForm 30 = .ok (.iload_n 3, 1) := by decide +kernel
theorem dX12_writeForm_31 : decode cX12_writeForm 31 = .ok (.iaload, 1) := by decide +kernel
theorem dX12_writeForm_32 : decode cX12_writeForm 32 = .ok (.goto 4, 3) := by decide +kernel
theorem dX12_writeForm_35 : decode cX12_writeForm 35 = .ok (.iload_n 1, 1) := by decide +kernel
theorem dX12_writeForm_36 : decode cX12_writeForm 36 = .ok (.istore_n 1, 1) := by decide +kernel
theorem dX12_writeForm_37 : decode cX12_writeForm 37 = .ok (.aload_n 0, 1) := by decide +kernel
theorem dX12_writeForm_38 : decode cX12_writeForm 38 = .ok (.getfield 22, 3) := by decide +kernel
theorem dX12_writeForm_41 : decode cX12_writeForm 41 = .ok (.iload_n 3, 1) := by decide +kernel
theorem dX12_writeForm_42 : decode cX12_writeForm 42 = .ok (.iaload, 1) := by decide +kernel
theorem dX12_writeForm_43 : decode cX12_writeForm 43 = .ok (.iload_n 2, 1) := by decide +kernel
theorem dX12_writeForm_44 : decode cX12_writeForm 44 = .ok (.if_icmp .ge 12, 3) := by decide +kernel
theorem dX12_writeForm_47 : decode cX12_writeForm 47 = .ok (.aload_n 0, 1) := by decide +kernel
theorem dX12_writeForm_48 : decode cX12_writeForm 48 = .ok (.getfield 22, 3) := by decide +kernel
theorem dX12_writeForm_51 : decode cX12_writeForm 51 = .ok (.iload_n 3, 1) := by decide +kernel
theorem dX12_writeForm_52 : decode cX12_writeForm 52 = .ok (.iaload, 1) := by decide +kernel
theorem dX12_writeForm_53 : decode cX12_writeForm 53 = .ok (.goto 4, 3) := by decide +kernel
theorem dX12_writeForm_56 : decode cX12_writeForm 56 = .ok (.iload_n 2, 1) := by decide +kernel
theorem dX12_writeForm_57 : decode cX12_writeForm 57 = .ok (.istore_n 2, 1) := by decide +kernel
theorem dX12_writeForm_58 : decode cX12_writeForm 58 = .ok (.iinc 3 1, 3) := by decide +kernel
theorem dX12_writeForm_61 : decode cX12_writeForm 61 = .ok (.goto (-53), 3) := by decide +kernel
theorem dX12_writeForm_64 : decode cX12_writeForm 64 = .ok (.iconst 0, 1) := by decide +kernel
theorem dX12_writeForm_65 : decode cX12_writeForm 65 = .ok (.istore_n 3, 1) := by decide +kernel
theorem dX12_writeForm_66 : decode cX12_writeForm 66 = .ok (.iload_n 3, 1) := by decide +kernel
theorem dX12_writeForm_67 : decode cX12_writeForm 67 = .ok (.aload_n 0, 1) := by decide +kernel
theorem dX12_writeForm_68 : decode cX12_writeForm 68 = .ok (.getfield 127, 3) := by decide +kernel
theorem dX12_writeForm_71 : decode cX12_writeForm 71 = .ok (.if_icmp .ge 101, 3) := by decide +kernel
theorem dX12_writeForm_74 : decode cX12_writeForm 74 = .ok (.aload_n 0, 1) := by decide +kernel
theorem dX12_writeForm_75 : decode cX12_writeForm 75 = .ok (.getfield 97, 3) := by decide +kernel
theorem dX12_writeForm_78 : decode cX12_writeForm 78 = .ok (.iconst 4, 1) := by decide +kernel
theorem dX12_writeForm_79 : decode cX12_writeForm 79 = .ok (.iload_n 3, 1) := by decide +kernel
theorem dX12_writeForm_80 : decode cX12_writeForm 80 = .ok (.imul, 1) := by decide +kernel
theorem dX12_writeForm_81 : decode cX12_writeForm 81 = .ok (.aload_n 0, 1) := by decide +kernel
theorem dX12_writeForm_82 : decode cX12_writeForm 82 = .ok (.getfield 22, 3) := by decide +kernel
theorem dX12_writeForm_85 : decode cX12_writeForm 85 = .ok (.iload_n 3, 1) := by decide +kernel
theorem dX12_writeForm_86 : decode cX12_writeForm 86 = .ok (.iaload, 1) := by decide +kernel
theorem dX12_writeForm_87 : decode cX12_writeForm 87 = .ok (.iload_n 2, 1) := by decide +kernel
theorem dX12_writeForm_88 : decode cX12_writeForm 88 = .ok (.isub, 1) := by decide +kernel
theorem dX12_writeForm_89 : decode cX12_writeForm 89 = .ok (.iastore, 1) := by decide +kernel
theorem dX12_writeForm_90 : decode cX12_writeForm 90 = .ok (.aload_n 0, 1) := by decide +kernel
theorem dX12_writeForm_91 : decode cX12_writeForm 91 = .ok (.getfield 97, 3) := by decide +kernel
theorem dX12_writeForm_94 : decode cX12_writeForm 94 = .ok (.iconst 4, 1) := by decide +kernel
theorem dX12_writeForm_95 : decode cX12_writeForm 95 = .ok (.iload_n 3, 1) := by decide +kernel
theorem dX12_writeForm_96 : decode cX12_writeForm 96 = .ok (.imul, 1) := by decide +kernel
theorem dX12_writeForm_97 : decode cX12_writeForm 97 = .ok (.iconst 1, 1) := by decide +kernel
theorem dX12_writeForm_98 : decode cX12_writeForm 98 = .ok (.iadd, 1) := by decide +kernel
theorem dX12_writeForm_99 : decode cX12_writeForm 99 = .ok (.aload_n 0, 1) := by decide +kernel
theorem dX12_writeForm_100 : decode cX12_writeForm 100 = .ok (.getfield 19, 3) := by decide +kernel
theorem dX12_writeForm_103 : decode cX12_writeForm 103 = .ok (.iload_n 3, 1) := by decide +kernel
theorem dX12_writeForm_104 : decode cX12_writeForm 104 = .ok (.iaload, 1) := by decide +kernel
theorem dX12_writeForm_105 : decode cX12_writeForm 105 = .ok (.iload_n 1, 1) := by decide +kernel
theorem dX12_writeForm_106 : decode cX12_writeForm 106 = .ok (.isub, 1) := by decide +kernel
theorem dX12_writeForm_107 : decode cX12_writeForm 107 = .ok (.iastore, 1) := by decide +kernel
theorem dX12_writeForm_108 : decode cX12_writeForm 108 = .ok (.aload_n 0, 1) := by decide +kernel
theorem dX12_writeForm_109 : decode cX12_writeForm 109 = .ok (.getfield 97, 3) := by decide +kernel
theorem dX12_writeForm_112 : decode cX12_writeForm 112 = .ok (.iconst 4, 1) := by decide +kernel
theorem dX12_writeForm_113 : decode cX12_writeForm 113 = .ok (.iload_n 3, 1) := by decide +kernel
theorem dX12_writeForm_114 : decode cX12_writeForm 114 = .ok (.imul, 1) := by decide +kernel
theorem dX12_writeForm_115 : decode cX12_writeForm 115 = .ok (.iconst 2, 1) := by decide +kernel
theorem dX12_writeForm_116 : decode cX12_writeForm 116 = .ok (.iadd, 1) := by decide +kernel
theorem dX12_writeForm_117 : decode cX12_writeForm 117 = .ok (.aload_n 0, 1) := by decide +kernel
theorem dX12_writeForm_118 : decode cX12_writeForm 118 = .ok (.getfield 25, 3) := by decide +kernel
theorem dX12_writeForm_121 : decode cX12_writeForm 121 = .ok (.iload_n 3, 1) := by decide +kernel
theorem dX12_writeForm_122 : decode cX12_writeForm 122 = .ok (.iaload, 1) := by decide +kernel
theorem dX12_writeForm_123 : decode cX12_writeForm 123 = .ok (.ifCond .ne 7, 3) := by decide +kernel
theorem dX12_writeForm_126 : decode cX12_writeForm 126 = .ok (.iconst 0, 1) := by decide +kernel
theorem dX12_writeForm_127 : decode cX12_writeForm 127 = .ok (.goto 9, 3) := by decide +kernel
theorem dX12_writeForm_130 : decode cX12_writeForm 130 = .ok (.aload_n 0, 1) := by decide +kernel
theorem dX12_writeForm_131 : decode cX12_writeForm 131 = .ok (.getfield 25, 3) := by decide +kernel
theorem dX12_writeForm_134 : decode cX12_writeForm 134 = .ok (.iload_n 3, 1) := by decide +kernel
theorem dX12_writeForm_135 : decode cX12_writeForm 135 = .ok (.iaload, 1) := by decide +kernel
theorem dX12_writeForm_136 : decode cX12_writeForm 136 = .ok (.iastore, 1) := by decide +kernel
theorem dX12_writeForm_137 : decode cX12_writeForm 137 = .ok (.aload_n 0, 1) := by decide +kernel
theorem dX12_writeForm_138 : decode cX12_writeForm 138 = .ok (.getfield 97, 3) := by decide +kernel
theorem dX12_writeForm_141 : decode cX12_writeForm 141 = .ok (.iconst 4, 1) := by decide +kernel
theorem dX12_writeForm_142 : decode cX12_writeForm 142 = .ok (.iload_n 3, 1) := by decide +kernel
theorem dX12_writeForm_143 : decode cX12_writeForm 143 = .ok (.imul, 1) := by decide +kernel
theorem dX12_writeForm_144 : decode cX12_writeForm 144 = .ok (.iconst 3, 1) := by decide +kernel
theorem dX12_writeForm_145 : decode cX12_writeForm 145 = .ok (.iadd, 1) := by decide +kernel
theorem dX12_writeForm_146 : decode cX12_writeForm 146 = .ok (.aload_n 0, 1) := by decide +kernel
theorem dX12_writeForm_147 : decode cX12_writeForm 147 = .ok (.getfield 28, 3) := by decide +kernel
theorem dX12_writeForm_150 : decode cX12_writeForm 150 = .ok (.iload_n 3, 1) := by decide +kernel
theorem dX12_writeForm_151 : decode cX12_writeForm 151 = .ok (.iaload, 1) := by decide +kernel
theorem dX12_writeForm_152 : decode cX12_writeForm 152 = .ok (.ifCond .ne 7, 3) := by decide +kernel
theorem dX12_writeForm_155 : decode cX12_writeForm 155 = .ok (.iconst 0, 1) := by decide +kernel
theorem dX12_writeForm_156 : decode cX12_writeForm 156 = .ok (.goto 9, 3) := by decide +kernel
theorem dX12_writeForm_159 : decode cX12_writeForm 159 = .ok (.aload_n 0, 1) := by decide +kernel
theorem dX12_writeForm_160 : decode cX12_writeForm 160 = .ok (.getfield 28, 3) := by decide +kernel
theorem dX12_writeForm_163 : decode cX12_writeForm 163 = .ok (.iload_n 3, 1) := by decide +kernel
theorem dX12_writeForm_164 : decode cX12_writeForm 164 = .ok (.iaload, 1) := by decide +kernel
theorem dX12_writeForm_165 : decode cX12_writeForm 165 = .ok (.iastore, 1) := by decide +kernel
theorem dX12_writeForm_166 : decode cX12_writeForm 166 = .ok (.iinc 3 1, 3) := by decide +kernel
theorem dX12_writeForm_169 : decode cX12_writeForm 169 = .ok (.goto (-103), 3) := by decide +kernel
theorem dX12_writeForm_172 : decode cX12_writeForm 172 = .ok (.return_, 1) := by decide +kernel
theorem dX12_compare_0 : decode cX12_compare 0 = .ok (.iconst 0, 1) := by decide +kernel
theorem dX12_compare_1 : decode cX12_compare 1 = .ok (.istore_n 3, 1) := by decide +kernel
theorem dX12_compare_2 : decode cX12_compare 2 = .ok (.iload_n 3, 1) := by decide +kernel
theorem dX12_compare_3 : decode cX12_compare 3 = .ok (.iconst 4, 1) := by decide +kernel
theorem dX12_compare_4 : decode cX12_compare 4 = .ok (.aload_n 0, 1) := by decide +kernel
theorem dX12_compare_5 : decode cX12_compare 5 = .ok (.getfield 127, 3) := by decide +kernel
theorem dX12_compare_8 : decode cX12_compare 8 = .ok (.imul, 1) := by decide +kernel
theorem dX12_compare_9 : decode cX12_compare 9 = .ok (.if_icmp .ge 33, 3) := by decide +kernel
theorem dX12_compare_12 : decode cX12_compare 12 = .ok (.aload_n 1, 1) := by decide +kernel
theorem dX12_compare_13 : decode cX12_compare 13 = .ok (.iload_n 3, 1) := by decide +kernel
theorem dX12_compare_14 : decode cX12_compare 14 = .ok (.iaload, 1) := by decide +kernel
theorem dX12_compare_15 : decode cX12_compare 15 = .ok (.aload_n 2, 1) := by decide +kernel
theorem dX12_compare_16 : decode cX12_compare 16 = .ok (.iload_n 3, 1) := by decide +kernel
theorem dX12_compare_17 : decode cX12_compare 17 = .ok (.iaload, 1) := by decide +kernel
theorem dX12_compare_18 : decode cX12_compare 18 = .ok (.if_icmp .eq 18, 3) := by decide +kernel
theorem dX12_compare_21 : decode cX12_compare 21 = .ok (.aload_n 1, 1) := by decide +kernel
theorem dX12_compare_22 : decode cX12_compare 22 = .ok (.iload_n 3, 1) := by decide +kernel
theorem dX12_compare_23 : decode cX12_compare 23 = .ok (.iaload, 1) := by decide +kernel
theorem dX12_compare_24 : decode cX12_compare 24 = .ok (.aload_n 2, 1) := by decide +kernel
theorem dX12_compare_25 : decode cX12_compare 25 = .ok (.iload_n 3, 1) := by decide +kernel
theorem dX12_compare_26 : decode cX12_compare 26 = .ok (.iaload, 1) := by decide +kernel
theorem dX12_compare_27 : decode cX12_compare 27 = .ok (.if_icmp .ge 7, 3) := by decide +kernel
theorem dX12_compare_30 : decode cX12_compare 30 = .ok (.iconst (-1), 1) := by decide +kernel
theorem dX12_compare_31 : decode cX12_compare 31 = .ok (.goto 4, 3) := by decide +kernel
theorem dX12_compare_34 : decode cX12_compare 34 = .ok (.iconst 1, 1) := by decide +kernel
theorem dX12_compare_35 : decode cX12_compare 35 = .ok (.ireturn, 1) := by decide +kernel
theorem dX12_compare_36 : decode cX12_compare 36 = .ok (.iinc 3 1, 3) := by decide +kernel
theorem dX12_compare_39 : decode cX12_compare 39 = .ok (.goto (-37), 3) := by decide +kernel
theorem dX12_compare_42 : decode cX12_compare 42 = .ok (.iconst 0, 1) := by decide +kernel
theorem dX12_compare_43 : decode cX12_compare 43 = .ok (.ireturn, 1) := by decide +kernel
theorem dX12_findForm_0 : decode cX12_findForm 0 = .ok (.aload_n 0, 1) := by decide +kernel
theorem dX12_findForm_1 : decode cX12_findForm 1 = .ok (.invokevirtual 291, 3) := by decide +kernel
theorem dX12_findForm_4 : decode cX12_findForm 4 = .ok (.iconst 0, 1) := by decide +kernel
theorem dX12_findForm_5 : decode cX12_findForm 5 = .ok (.istore_n 1, 1) := by decide +kernel
theorem dX12_findForm_6 : decode cX12_findForm 6 = .ok (.iload_n 1, 1) := by decide +kernel
theorem dX12_findForm_7 : decode cX12_findForm 7 = .ok (.iconst 4, 1) := by decide +kernel
theorem dX12_findForm_8 : decode cX12_findForm 8 = .ok (.aload_n 0, 1) := by decide +kernel
theorem dX12_findForm_9 : decode cX12_findForm 9 = .ok (.getfield 127, 3) := by decide +kernel
theorem dX12_findForm_12 : decode cX12_findForm 12 = .ok (.imul, 1) := by decide +kernel
theorem dX12_findForm_13 : decode cX12_findForm 13 = .ok (.if_icmp .ge 21, 3) := by decide +kernel
theorem dX12_findForm_16 : decode cX12_findForm 16 = .ok (.aload_n 0, 1) := by decide +kernel
theorem dX12_findForm_17 : decode cX12_findForm 17 = .ok (.getfield 94, 3) := by decide +kernel
theorem dX12_findForm_20 : decode cX12_findForm 20 = .ok (.iload_n 1, 1) := by decide +kernel
theorem dX12_findForm_21 : decode cX12_findForm 21 = .ok (.aload_n 0, 1) := by decide +kernel
theorem dX12_findForm_22 : decode cX12_findForm 22 = .ok (.getfield 97, 3) := by decide +kernel
theorem dX12_findForm_25 : decode cX12_findForm 25 = .ok (.iload_n 1, 1) := by decide +kernel
theorem dX12_findForm_26 : decode cX12_findForm 26 = .ok (.iaload, 1) := by decide +kernel
theorem dX12_findForm_27 : decode cX12_findForm 27 = .ok (.iastore, 1) := by decide +kernel
theorem dX12_findForm_28 : decode cX12_findForm 28 = .ok (.iinc 1 1, 3) := by decide +kernel
theorem dX12_findForm_31 : decode cX12_findForm 31 = .ok (.goto (-25), 3) := by decide +kernel
theorem dX12_findForm_34 : decode cX12_findForm 34 = .ok (.aload_n 0, 1) := by decide +kernel
theorem dX12_findForm_35 : decode cX12_findForm 35 = .ok (.iconst 0, 1) := by decide +kernel
theorem dX12_findForm_36 : decode cX12_findForm 36 = .ok (.putfield 294, 3) := by decide +kernel
theorem dX12_findForm_39 : decode cX12_findForm 39 = .ok (.iconst 0, 1) := by decide +kernel
theorem dX12_findForm_40 : decode cX12_findForm 40 = .ok (.istore_n 1, 1) := by decide +kernel
theorem dX12_findForm_41 : decode cX12_findForm 41 = .ok (.iload_n 1, 1) := by decide +kernel
theorem dX12_findForm_42 : decode cX12_findForm 42 = .ok (.bipush 8, 2) := by decide +kernel
theorem dX12_findForm_44 : decode cX12_findForm 44 = .ok (.if_icmp .ge 104, 3) := by decide +kernel
theorem dX12_findForm_47 : decode cX12_findForm 47 = .ok (.aload_n 0, 1) := by decide +kernel
theorem dX12_findForm_48 : decode cX12_findForm 48 = .ok (.invokevirtual 291, 3) := by decide +kernel
theorem dX12_findForm_51 : decode cX12_findForm 51 = .ok (.aload_n 0, 1) := by decide +kernel
theorem dX12_findForm_52 : decode cX12_findForm 52 = .ok (.aload_n 0, 1) := by decide +kernel
theorem dX12_findForm_53 : decode cX12_findForm 53 = .ok (.getfield 97, 3) := by decide +kernel
theorem dX12_findForm_56 : decode cX12_findForm 56 = .ok (.aload_n 0, 1) := by decide +kernel
theorem dX12_findForm_57 : decode cX12_findForm 57 = .ok (.getfield 94, 3) := by decide +kernel
theorem dX12_findForm_60 : decode cX12_findForm 60 = .ok (.invokevirtual 297, 3) := by decide +kernel
theorem dX12_findForm_63 : decode cX12_findForm 63 = .ok (.istore_n 2, 1) := by decide +kernel
theorem dX12_findForm_64 : decode cX12_findForm 64 = .ok (.iload_n 2, 1) := by decide +kernel
theorem dX12_findForm_65 : decode cX12_findForm 65 = .ok (.ifCond .ge 38, 3) := by decide +kernel
theorem dX12_findForm_68 : decode cX12_findForm 68 = .ok (.aload_n 0, 1) := by decide +kernel
theorem dX12_findForm_69 : decode cX12_findForm 69 = .ok (.iconst 0, 1) := by decide +kernel
theorem dX12_findForm_70 : decode cX12_findForm 70 = .ok (.putfield 294, 3) := by decide +kernel
theorem dX12_findForm_73 : decode cX12_findForm 73 = .ok (.iconst 0, 1) := by decide +kernel
theorem dX12_findForm_74 : decode cX12_findForm 74 = .ok (.istore_n 3, 1) := by decide +kernel
theorem dX12_findForm_75 : decode cX12_findForm 75 = .ok (.iload_n 3, 1) := by decide +kernel
theorem dX12_findForm_76 : decode cX12_findForm 76 = .ok (.iconst 4, 1) := by decide +kernel
theorem dX12_findForm_77 : decode cX12_findForm 77 = .ok (.aload_n 0, 1) := by decide +kernel
theorem dX12_findForm_78 : decode cX12_findForm 78 = .ok (.getfield 127, 3) := by decide +kernel
theorem dX12_findForm_81 : decode cX12_findForm 81 = .ok (.imul, 1) := by decide +kernel
theorem dX12_findForm_82 : decode cX12_findForm 82 = .ok (.if_icmp .ge 21, 3) := by decide +kernel
theorem dX12_findForm_85 : decode cX12_findForm 85 = .ok (.aload_n 0, 1) := by decide +kernel
theorem dX12_findForm_86 : decode cX12_findForm 86 = .ok (.getfield 94, 3) := by decide +kernel
theorem dX12_findForm_89 : decode cX12_findForm 89 = .ok (.iload_n 3, 1) := by decide +kernel
theorem dX12_findForm_90 : decode cX12_findForm 90 = .ok (.aload_n 0, 1) := by decide +kernel
theorem dX12_findForm_91 : decode cX12_findForm 91 = .ok (.getfield 97, 3) := by decide +kernel
theorem dX12_findForm_94 : decode cX12_findForm 94 = .ok (.iload_n 3, 1) := by decide +kernel
theorem dX12_findForm_95 : decode cX12_findForm 95 = .ok (.iaload, 1) := by decide +kernel
theorem dX12_findForm_96 : decode cX12_findForm 96 = .ok (.iastore, 1) := by decide +kernel
theorem dX12_findForm_97 : decode cX12_findForm 97 = .ok (.iinc 3 1, 3) := by decide +kernel
theorem dX12_findForm_100 : decode cX12_findForm 100 = .ok (.goto (-25), 3) := by decide +kernel
theorem dX12_findForm_103 : decode cX12_findForm 103 = .ok (.aload_n 0, 1) := by decide +kernel
theorem dX12_findForm_104 : decode cX12_findForm 104 = .ok (.dup, 1) := by decide +kernel
theorem dX12_findForm_105 : decode cX12_findForm 105 = .ok (.getfield 294, 3) := by decide +kernel
theorem dX12_findForm_108 : decode cX12_findForm 108 = .ok (.iload_n 2, 1) := by decide +kernel
theorem dX12_findForm_109 : decode cX12_findForm 109 = .ok (.ifCond .gt 7, 3) := by decide +kernel
theorem dX12_findForm_112 : decode cX12_findForm 112 = .ok (.iconst 1, 1) := by decide +kernel
theorem dX12_findForm_113 : decode cX12_findForm 113 = .ok (.goto 4, 3) := by decide +kernel
theorem dX12_findForm_116 : decode cX12_findForm 116 = .ok (.iconst 0, 1) := by decide +kernel
theorem dX12_findForm_117 : decode cX12_findForm 117 = .ok (.iadd, 1) := by decide +kernel
theorem dX12_findForm_118 : decode cX12_findForm 118 = .ok (.putfield 294, 3) := by decide +kernel
theorem dX12_findForm_121 : decode cX12_findForm 121 = .ok (.aload_n 0, 1) := by decide +kernel
theorem dX12_findForm_122 : decode cX12_findForm 122 = .ok (.iconst 0, 1) := by decide +kernel
theorem dX12_findForm_123 : decode cX12_findForm 123 = .ok (.invokevirtual 275, 3) := by decide +kernel
theorem dX12_findForm_126 : decode cX12_findForm 126 = .ok (.iload_n 1, 1) := by decide +kernel
theorem dX12_findForm_127 : decode cX12_findForm 127 = .ok (.iconst 3, 1) := by decide +kernel
theorem dX12_findForm_128 : decode cX12_findForm 128 = .ok (.if_icmp .eq 9, 3) := by decide +kernel
theorem dX12_findForm_131 : decode cX12_findForm 131 = .ok (.iload_n 1, 1) := by decide +kernel
theorem dX12_findForm_132 : decode cX12_findForm 132 = .ok (.bipush 7, 2) := by decide +kernel
theorem dX12_findForm_134 : decode cX12_findForm 134 = .ok (.if_icmp .ne 8, 3) := by decide +kernel
theorem dX12_findForm_137 : decode cX12_findForm 137 = .ok (.aload_n 0, 1) := by decide +kernel
theorem dX12_findForm_138 : decode cX12_findForm 138 = .ok (.iconst 1, 1) := by decide +kernel
theorem dX12_findForm_139 : decode cX12_findForm 139 = .ok (.invokevirtual 275, 3) := by decide +kernel
theorem dX12_findForm_142 : decode cX12_findForm 142 = .ok (.iinc 1 1, 3) := by decide +kernel
theorem dX12_findForm_145 : decode cX12_findForm 145 = .ok (.goto (-104), 3) := by decide +kernel
theorem dX12_findForm_148 : decode cX12_findForm 148 = .ok (.return_, 1) := by decide +kernel
theorem dX12_form_0 : decode cX12_form 0 = .ok (.aload_n 0, 1) := by decide +kernel
theorem dX12_form_1 : decode cX12_form 1 = .ok (.iconst 0, 1) := by decide +kernel
theorem dX12_form_2 : decode cX12_form 2 = .ok (.putfield 113, 3) := by decide +kernel
theorem dX12_form_5 : decode cX12_form 5 = .ok (.iload_n 1, 1) := by decide +kernel
theorem dX12_form_6 : decode cX12_form 6 = .ok (.ifCond .ge 6, 3) := by decide +kernel
theorem dX12_form_9 : decode cX12_form 9 = .ok (.bipush (-3), 2) := by decide +kernel
theorem dX12_form_11 : decode cX12_form 11 = .ok (.ireturn, 1) := by decide +kernel
theorem dX12_form_12 : decode cX12_form 12 = .ok (.aload_n 0, 1) := by decide +kernel
theorem dX12_form_13 : decode cX12_form 13 = .ok (.invokevirtual 301, 3) := by decide +kernel
theorem dX12_form_16 : decode cX12_form 16 = .ok (.iload_n 1, 1) := by decide +kernel
theorem dX12_form_17 : decode cX12_form 17 = .ok (.iconst 4, 1) := by decide +kernel
theorem dX12_form_18 : decode cX12_form 18 = .ok (.aload_n 0, 1) := by decide +kernel
theorem dX12_form_19 : decode cX12_form 19 = .ok (.getfield 127, 3) := by decide +kernel
theorem dX12_form_22 : decode cX12_form 22 = .ok (.imul, 1) := by decide +kernel
theorem dX12_form_23 : decode cX12_form 23 = .ok (.if_icmp .ge 12, 3) := by decide +kernel
theorem dX12_form_26 : decode cX12_form 26 = .ok (.aload_n 0, 1) := by decide +kernel
theorem dX12_form_27 : decode cX12_form 27 = .ok (.getfield 94, 3) := by decide +kernel
theorem dX12_form_30 : decode cX12_form 30 = .ok (.iload_n 1, 1) := by decide +kernel
theorem dX12_form_31 : decode cX12_form 31 = .ok (.iaload, 1) := by decide +kernel
theorem dX12_form_32 : decode cX12_form 32 = .ok (.goto 4, 3) := by decide +kernel
theorem dX12_form_35 : decode cX12_form 35 = .ok (.iconst (-1), 1) := by decide +kernel
theorem dX12_form_36 : decode cX12_form 36 = .ok (.ireturn, 1) := by decide +kernel
theorem dX12_same_0 : decode cX12_same 0 = .ok (.aload_n 0, 1) := by decide +kernel
theorem dX12_same_1 : decode cX12_same 1 = .ok (.iconst 0, 1) := by decide +kernel
theorem dX12_same_2 : decode cX12_same 2 = .ok (.putfield 113, 3) := by decide +kernel
theorem dX12_same_5 : decode cX12_same 5 = .ok (.aload_n 0, 1) := by decide +kernel
theorem dX12_same_6 : decode cX12_same 6 = .ok (.invokevirtual 301, 3) := by decide +kernel
theorem dX12_same_9 : decode cX12_same 9 = .ok (.aload_n 0, 1) := by decide +kernel
theorem dX12_same_10 : decode cX12_same 10 = .ok (.getfield 294, 3) := by decide +kernel
theorem dX12_same_13 : decode cX12_same 13 = .ok (.ireturn, 1) := by decide +kernel
theorem dX12_shelve_0 : decode cX12_shelve 0 = .ok (.aload_n 0, 1) := by decide +kernel
theorem dX12_shelve_1 : decode cX12_shelve 1 = .ok (.iconst 0, 1) := by decide +kernel
theorem dX12_shelve_2 : decode cX12_shelve 2 = .ok (.putfield 113, 3) := by decide +kernel
theorem dX12_shelve_5 : decode cX12_shelve 5 = .ok (.iload_n 1, 1) := by decide +kernel
theorem dX12_shelve_6 : decode cX12_shelve 6 = .ok (.iconst 0, 1) := by decide +kernel
theorem dX12_shelve_7 : decode cX12_shelve 7 = .ok (.iconst 5, 1) := by decide +kernel
theorem dX12_shelve_8 : decode cX12_shelve 8 = .ok (.invokestatic 139, 3) := by decide +kernel
theorem dX12_shelve_11 : decode cX12_shelve 11 = .ok (.ifCond .ne 6, 3) := by decide +kernel
theorem dX12_shelve_14 : decode cX12_shelve 14 = .ok (.bipush (-3), 2) := by decide +kernel
theorem dX12_shelve_16 : decode cX12_shelve 16 = .ok (.ireturn, 1) := by decide +kernel
theorem dX12_shelve_17 : decode cX12_shelve 17 = .ok (.aload_n 0, 1) := by decide +kernel
theorem dX12_shelve_18 : decode cX12_shelve 18 = .ok (.invokevirtual 301, 3) := by decide +kernel
theorem dX12_shelve_21 : decode cX12_shelve 21 = .ok (.aload_n 0, 1) := by decide +kernel
theorem dX12_shelve_22 : decode cX12_shelve 22 = .ok (.getfield 31, 3) := by decide +kernel
theorem dX12_shelve_25 : decode cX12_shelve 25 = .ok (.iload_n 1, 1) := by decide +kernel
theorem dX12_shelve_26 : decode cX12_shelve 26 = .ok (.aload_n 0, 1) := by decide +kernel
theorem dX12_shelve_27 : decode cX12_shelve 27 = .ok (.getfield 127, 3) := by decide +kernel
theorem dX12_shelve_30 : decode cX12_shelve 30 = .ok (.iastore, 1) := by decide +kernel
theorem dX12_shelve_31 : decode cX12_shelve 31 = .ok (.iconst 0, 1) := by decide +kernel
theorem dX12_shelve_32 : decode cX12_shelve 32 = .ok (.istore_n 2, 1) := by decide +kernel
theorem dX12_shelve_33 : decode cX12_shelve 33 = .ok (.iload_n 2, 1) := by decide +kernel
theorem dX12_shelve_34 : decode cX12_shelve 34 = .ok (.iconst 4, 1) := by decide +kernel
theorem dX12_shelve_35 : decode cX12_shelve 35 = .ok (.aload_n 0, 1) := by decide +kernel
theorem dX12_shelve_36 : decode cX12_shelve 36 = .ok (.getfield 127, 3) := by decide +kernel
theorem dX12_shelve_39 : decode cX12_shelve 39 = .ok (.imul, 1) := by decide +kernel
theorem dX12_shelve_40 : decode cX12_shelve 40 = .ok (.if_icmp .ge 27, 3) := by decide +kernel
theorem dX12_shelve_43 : decode cX12_shelve 43 = .ok (.aload_n 0, 1) := by decide +kernel
theorem dX12_shelve_44 : decode cX12_shelve 44 = .ok (.getfield 34, 3) := by decide +kernel
theorem dX12_shelve_47 : decode cX12_shelve 47 = .ok (.sipush 240, 3) := by decide +kernel
theorem dX12_shelve_50 : decode cX12_shelve 50 = .ok (.iload_n 1, 1) := by decide +kernel
theorem dX12_shelve_51 : decode cX12_shelve 51 = .ok (.imul, 1) := by decide +kernel
theorem dX12_shelve_52 : decode cX12_shelve 52 = .ok (.iload_n 2, 1) := by decide +kernel
theorem dX12_shelve_53 : decode cX12_shelve 53 = .ok (.iadd, 1) := by decide +kernel
theorem dX12_shelve_54 : decode cX12_shelve 54 = .ok (.aload_n 0, 1) := by decide +kernel
theorem dX12_shelve_55 : decode cX12_shelve 55 = .ok (.getfield 94, 3) := by decide +kernel
theorem dX12_shelve_58 : decode cX12_shelve 58 = .ok (.iload_n 2, 1) := by decide +kernel
theorem dX12_shelve_59 : decode cX12_shelve 59 = .ok (.iaload, 1) := by decide +kernel
theorem dX12_shelve_60 : decode cX12_shelve 60 = .ok (.iastore, 1) := by decide +kernel
theorem dX12_shelve_61 : decode cX12_shelve 61 = .ok (.iinc 2 1, 3) := by decide +kernel
theorem dX12_shelve_64 : decode cX12_shelve 64 = .ok (.goto (-31), 3) := by decide +kernel
theorem dX12_shelve_67 : decode cX12_shelve 67 = .ok (.aload_n 0, 1) := by decide +kernel
theorem dX12_shelve_68 : decode cX12_shelve 68 = .ok (.getfield 127, 3) := by decide +kernel
theorem dX12_shelve_71 : decode cX12_shelve 71 = .ok (.ireturn, 1) := by decide +kernel
theorem dX12_alike_0 : decode cX12_alike 0 = .ok (.aload_n 0, 1) := by decide +kernel
theorem dX12_alike_1 : decode cX12_alike 1 = .ok (.iconst 0, 1) := by decide +kernel
theorem dX12_alike_2 : decode cX12_alike 2 = .ok (.putfield 113, 3) := by decide +kernel
theorem dX12_alike_5 : decode cX12_alike 5 = .ok (.iload_n 1, 1) := by decide +kernel
theorem dX12_alike_6 : decode cX12_alike 6 = .ok (.iconst 0, 1) := by decide +kernel
theorem dX12_alike_7 : decode cX12_alike 7 = .ok (.iconst 5, 1) := by decide +kernel
theorem dX12_alike_8 : decode cX12_alike 8 = .ok (.invokestatic 139, 3) := by decide +kernel
theorem dX12_alike_11 : decode cX12_alike 11 = .ok (.ifCond .ne 6, 3) := by decide +kernel
theorem dX12_alike_14 : decode cX12_alike 14 = .ok (.bipush (-3), 2) := by decide +kernel
theorem dX12_alike_16 : decode cX12_alike 16 = .ok (.ireturn, 1) := by decide +kernel
theorem dX12_alike_17 : decode cX12_alike 17 = .ok (.aload_n 0, 1) := by decide +kernel
theorem dX12_alike_18 : decode cX12_alike 18 = .ok (.invokevirtual 301, 3) := by decide +kernel
theorem dX12_alike_21 : decode cX12_alike 21 = .ok (.aload_n 0, 1) := by decide +kernel
theorem dX12_alike_22 : decode cX12_alike 22 = .ok (.getfield 31, 3) := by decide +kernel
theorem dX12_alike_25 : decode cX12_alike 25 = .ok (.iload_n 1, 1) := by decide +kernel
theorem dX12_alike_26 : decode cX12_alike 26 = .ok (.iaload, 1) := by decide +kernel
theorem dX12_alike_27 : decode cX12_alike 27 = .ok (.aload_n 0, 1) := by decide +kernel
theorem dX12_alike_28 : decode cX12_alike 28 = .ok (.getfield 127, 3) := by decide +kernel
theorem dX12_alike_31 : decode cX12_alike 31 = .ok (.if_icmp .ne 7, 3) := by decide +kernel
theorem dX12_alike_34 : decode cX12_alike 34 = .ok (.iconst 1, 1) := by decide +kernel
theorem dX12_alike_35 : decode cX12_alike 35 = .ok (.goto 4, 3) := by decide +kernel
theorem dX12_alike_38 : decode cX12_alike 38 = .ok (.iconst 0, 1) := by decide +kernel
theorem dX12_alike_39 : decode cX12_alike 39 = .ok (.istore_n 2, 1) := by decide +kernel
theorem dX12_alike_40 : decode cX12_alike 40 = .ok (.iconst 0, 1) := by decide +kernel
theorem dX12_alike_41 : decode cX12_alike 41 = .ok (.istore_n 3, 1) := by decide +kernel
theorem dX12_alike_42 : decode cX12_alike 42 = .ok (.iload_n 3, 1) := by decide +kernel
theorem dX12_alike_43 : decode cX12_alike 43 = .ok (.iconst 4, 1) := by decide +kernel
theorem dX12_alike_44 : decode cX12_alike 44 = .ok (.aload_n 0, 1) := by decide +kernel
theorem dX12_alike_45 : decode cX12_alike 45 = .ok (.getfield 127, 3) := by decide +kernel
theorem dX12_alike_48 : decode cX12_alike 48 = .ok (.imul, 1) := by decide +kernel
theorem dX12_alike_49 : decode cX12_alike 49 = .ok (.if_icmp .ge 40, 3) := by decide +kernel
theorem dX12_alike_52 : decode cX12_alike 52 = .ok (.iload_n 2, 1) := by decide +kernel
theorem dX12_alike_53 : decode cX12_alike 53 = .ok (.ifCond .eq 36, 3) := by decide +kernel
theorem dX12_alike_56 : decode cX12_alike 56 = .ok (.aload_n 0, 1) := by decide +kernel
theorem dX12_alike_57 : decode cX12_alike 57 = .ok (.getfield 34, 3) := by decide +kernel
theorem dX12_alike_60 : decode cX12_alike 60 = .ok (.sipush 240, 3) := by decide +kernel
theorem dX12_alike_63 : decode cX12_alike 63 = .ok (.iload_n 1, 1) := by decide +kernel
theorem dX12_alike_64 : decode cX12_alike 64 = .ok (.imul, 1) := by decide +kernel
theorem dX12_alike_65 : decode cX12_alike 65 = .ok (.iload_n 3, 1) := by decide +kernel
theorem dX12_alike_66 : decode cX12_alike 66 = .ok (.iadd, 1) := by decide +kernel
theorem dX12_alike_67 : decode cX12_alike 67 = .ok (.iaload, 1) := by decide +kernel
theorem dX12_alike_68 : decode cX12_alike 68 = .ok (.aload_n 0, 1) := by decide +kernel
theorem dX12_alike_69 : decode cX12_alike 69 = .ok (.getfield 94, 3) := by decide +kernel
theorem dX12_alike_72 : decode cX12_alike 72 = .ok (.iload_n 3, 1) := by decide +kernel
theorem dX12_alike_73 : decode cX12_alike 73 = .ok (.iaload, 1) := by decide +kernel
theorem dX12_alike_74 : decode cX12_alike 74 = .ok (.if_icmp .ne 7, 3) := by decide +kernel
theorem dX12_alike_77 : decode cX12_alike 77 = .ok (.iconst 1, 1) := by decide +kernel
theorem dX12_alike_78 : decode cX12_alike 78 = .ok (.goto 4, 3) := by decide +kernel
theorem dX12_alike_81 : decode cX12_alike 81 = .ok (.iconst 0, 1) := by decide +kernel
theorem dX12_alike_82 : decode cX12_alike 82 = .ok (.istore_n 2, 1) := by decide +kernel
theorem dX12_alike_83 : decode cX12_alike 83 = .ok (.iinc 3 1, 3) := by decide +kernel
theorem dX12_alike_86 : decode cX12_alike 86 = .ok (.goto (-44), 3) := by decide +kernel
theorem dX12_alike_89 : decode cX12_alike 89 = .ok (.iload_n 2, 1) := by decide +kernel
theorem dX12_alike_90 : decode cX12_alike 90 = .ok (.ifCond .eq 7, 3) := by decide +kernel
theorem dX12_alike_93 : decode cX12_alike 93 = .ok (.iconst 1, 1) := by decide +kernel
theorem dX12_alike_94 : decode cX12_alike 94 = .ok (.goto 4, 3) := by decide +kernel
theorem dX12_alike_97 : decode cX12_alike 97 = .ok (.iconst 0, 1) := by decide +kernel
theorem dX12_alike_98 : decode cX12_alike 98 = .ok (.ireturn, 1) := by decide +kernel
theorem dX12_wrapAcross_0 : decode cX12_wrapAcross 0 = .ok (.iload_n 2, 1) := by decide +kernel
theorem dX12_wrapAcross_1 : decode cX12_wrapAcross 1 = .ok (.aload_n 0, 1) := by decide +kernel
theorem dX12_wrapAcross_2 : decode cX12_wrapAcross 2 = .ok (.getfield 103, 3) := by decide +kernel
theorem dX12_wrapAcross_5 : decode cX12_wrapAcross 5 = .ok (.iload_n 1, 1) := by decide +kernel
theorem dX12_wrapAcross_6 : decode cX12_wrapAcross 6 = .ok (.iaload, 1) := by decide +kernel
theorem dX12_wrapAcross_7 : decode cX12_wrapAcross 7 = .ok (.isub, 1) := by decide +kernel
theorem dX12_wrapAcross_8 : decode cX12_wrapAcross 8 = .ok (.iconst 4, 1) := by decide +kernel
theorem dX12_wrapAcross_9 : decode cX12_wrapAcross 9 = .ok (.iadd, 1) := by decide +kernel
theorem dX12_wrapAcross_10 : decode cX12_wrapAcross 10 = .ok (.iconst 4, 1) := by decide +kernel
theorem dX12_wrapAcross_11 : decode cX12_wrapAcross 11 = .ok (.irem, 1) := by decide +kernel
theorem dX12_wrapAcross_12 : decode cX12_wrapAcross 12 = .ok (.istore_n 3, 1) := by decide +kernel
theorem dX12_wrapAcross_13 : decode cX12_wrapAcross 13 = .ok (.aload_n 0, 1) := by decide +kernel
theorem dX12_wrapAcross_14 : decode cX12_wrapAcross 14 = .ok (.aload_n 0, 1) := by decide +kernel
theorem dX12_wrapAcross_15 : decode cX12_wrapAcross 15 = .ok (.getfield 100, 3) := by decide +kernel
theorem dX12_wrapAcross_18 : decode cX12_wrapAcross 18 = .ok (.iload_n 1, 1) := by decide +kernel
theorem dX12_wrapAcross_19 : decode cX12_wrapAcross 19 = .ok (.iaload, 1) := by decide +kernel
theorem dX12_wrapAcross_20 : decode cX12_wrapAcross 20 = .ok (.iload_n 3, 1) := by decide +kernel
theorem dX12_wrapAcross_21 : decode cX12_wrapAcross 21 = .ok (.invokevirtual 226, 3) := by decide +kernel
theorem dX12_wrapAcross_24 : decode cX12_wrapAcross 24 = .ok (.iload_n 2, 1) := by decide +kernel
theorem dX12_wrapAcross_25 : decode cX12_wrapAcross 25 = .ok (.iconst 2, 1) := by decide +kernel
theorem dX12_wrapAcross_26 : decode cX12_wrapAcross 26 = .ok (.iadd, 1) := by decide +kernel
theorem dX12_wrapAcross_27 : decode cX12_wrapAcross 27 = .ok (.aload_n 0, 1) := by decide +kernel
theorem dX12_wrapAcross_28 : decode cX12_wrapAcross 28 = .ok (.getfield 220, 3) := by decide +kernel
theorem dX12_wrapAcross_31 : decode cX12_wrapAcross 31 = .ok (.isub, 1) := by decide +kernel
theorem dX12_wrapAcross_32 : decode cX12_wrapAcross 32 = .ok (.iconst 4, 1) := by decide +kernel
theorem dX12_wrapAcross_33 : decode cX12_wrapAcross 33 = .ok (.iadd, 1) := by decide +kernel
theorem dX12_wrapAcross_34 : decode cX12_wrapAcross 34 = .ok (.iconst 4, 1) := by decide +kernel
theorem dX12_wrapAcross_35 : decode cX12_wrapAcross 35 = .ok (.irem, 1) := by decide +kernel
theorem dX12_wrapAcross_36 : decode cX12_wrapAcross 36 = .ok (.istore 4, 2) := by decide +kernel
theorem dX12_wrapAcross_38 : decode cX12_wrapAcross 38 = .ok (.aload_n 0, 1) := by decide +kernel
theorem dX12_wrapAcross_39 : decode cX12_wrapAcross 39 = .ok (.iload_n 1, 1) := by decide +kernel
theorem dX12_wrapAcross_40 : decode cX12_wrapAcross 40 = .ok (.iload_n 2, 1) := by decide +kernel
theorem dX12_wrapAcross_41 : decode cX12_wrapAcross 41 = .ok (.invokevirtual 258, 3) := by decide +kernel
theorem dX12_wrapAcross_44 : decode cX12_wrapAcross 44 = .ok (.istore 5, 2) := by decide +kernel
theorem dX12_wrapAcross_46 : decode cX12_wrapAcross 46 = .ok (.aload_n 0, 1) := by decide +kernel
theorem dX12_wrapAcross_47 : decode cX12_wrapAcross 47 = .ok (.getfield 100, 3) := by decide +kernel
theorem dX12_wrapAcross_50 : decode cX12_wrapAcross 50 = .ok (.iload 5, 2) := by decide +kernel
theorem dX12_wrapAcross_52 : decode cX12_wrapAcross 52 = .ok (.iaload, 1) := by decide +kernel
theorem dX12_wrapAcross_53 : decode cX12_wrapAcross 53 = .ok (.iconst (-1), 1) := by decide +kernel
theorem dX12_wrapAcross_54 : decode cX12_wrapAcross 54 = .ok (.if_icmp .eq 35, 3) := by decide +kernel
theorem dX12_wrapAcross_57 : decode cX12_wrapAcross 57 = .ok (.aload_n 0, 1) := by decide +kernel
theorem dX12_wrapAcross_58 : decode cX12_wrapAcross 58 = .ok (.getfield 100, 3) := by decide +kernel
theorem dX12_wrapAcross_61 : decode cX12_wrapAcross 61 = .ok (.iload 5, 2) := by decide +kernel
theorem dX12_wrapAcross_63 : decode cX12_wrapAcross 63 = .ok (.iaload, 1) := by decide +kernel
theorem dX12_wrapAcross_64 : decode cX12_wrapAcross 64 = .ok (.aload_n 0, 1) := by decide +kernel
theorem dX12_wrapAcross_65 : decode cX12_wrapAcross 65 = .ok (.getfield 213, 3) := by decide +kernel
theorem dX12_wrapAcross_68 : decode cX12_wrapAcross 68 = .ok (.if_icmp .ne 15, 3) := by decide +kernel
theorem dX12_wrapAcross_71 : decode cX12_wrapAcross 71 = .ok (.aload_n 0, 1) := by decide +kernel
theorem dX12_wrapAcross_72 : decode cX12_wrapAcross 72 = .ok (.getfield 103, 3) := by decide +kernel
theorem dX12_wrapAcross_75 : decode cX12_wrapAcross 75 = .ok (.iload 5, 2) := by decide +kernel
theorem dX12_wrapAcross_77 : decode cX12_wrapAcross 77 = .ok (.iaload, 1) := by decide +kernel
theorem dX12_wrapAcross_78 : decode cX12_wrapAcross 78 = .ok (.iload 4, 2) := by decide +kernel
theorem dX12_wrapAcross_80 : decode cX12_wrapAcross 80 = .ok (.if_icmp .eq 7, 3) := by decide +kernel
theorem dX12_wrapAcross_83 : decode cX12_wrapAcross 83 = .ok (.iconst 2, 1) := by decide +kernel
theorem dX12_wrapAcross_84 : decode cX12_wrapAcross 84 = .ok (.goto 4, 3) := by decide +kernel
theorem dX12_wrapAcross_87 : decode cX12_wrapAcross 87 = .ok (.iconst 0, 1) := by decide +kernel
theorem dX12_wrapAcross_88 : decode cX12_wrapAcross 88 = .ok (.ireturn, 1) := by decide +kernel
theorem dX12_wrapAcross_89 : decode cX12_wrapAcross 89 = .ok (.aload_n 0, 1) := by decide +kernel
theorem dX12_wrapAcross_90 : decode cX12_wrapAcross 90 = .ok (.getfield 106, 3) := by decide +kernel
theorem dX12_wrapAcross_93 : decode cX12_wrapAcross 93 = .ok (.aload_n 0, 1) := by decide +kernel
theorem dX12_wrapAcross_94 : decode cX12_wrapAcross 94 = .ok (.getfield 213, 3) := by decide +kernel
theorem dX12_wrapAcross_97 : decode cX12_wrapAcross 97 = .ok (.baload, 1) := by decide +kernel
theorem dX12_wrapAcross_98 : decode cX12_wrapAcross 98 = .ok (.ifCond .eq 5, 3) := by decide +kernel
theorem dX12_wrapAcross_101 : decode cX12_wrapAcross 101 = .ok (.iconst 2, 1) := by decide +kernel
theorem dX12_wrapAcross_102 : decode cX12_wrapAcross 102 = .ok (.ireturn, 1) := by decide +kernel
theorem dX12_wrapAcross_103 : decode cX12_wrapAcross 103 = .ok (.aload_n 0, 1) := by decide +kernel
theorem dX12_wrapAcross_104 : decode cX12_wrapAcross 104 = .ok (.getfield 106, 3) := by decide +kernel
theorem dX12_wrapAcross_107 : decode cX12_wrapAcross 107 = .ok (.aload_n 0, 1) := by decide +kernel
theorem dX12_wrapAcross_108 : decode cX12_wrapAcross 108 = .ok (.getfield 213, 3) := by decide +kernel
theorem dX12_wrapAcross_111 : decode cX12_wrapAcross 111 = .ok (.iconst 1, 1) := by decide +kernel
theorem dX12_wrapAcross_112 : decode cX12_wrapAcross 112 = .ok (.bastore, 1) := by decide +kernel
theorem dX12_wrapAcross_113 : decode cX12_wrapAcross 113 = .ok (.aload_n 0, 1) := by decide +kernel
theorem dX12_wrapAcross_114 : decode cX12_wrapAcross 114 = .ok (.getfield 100, 3) := by decide +kernel
theorem dX12_wrapAcross_117 : decode cX12_wrapAcross 117 = .ok (.iload 5, 2) := by decide +kernel
theorem dX12_wrapAcross_119 : decode cX12_wrapAcross 119 = .ok (.aload_n 0, 1) := by decide +kernel
theorem dX12_wrapAcross_120 : decode cX12_wrapAcross 120 = .ok (.getfield 213, 3) := by decide +kernel
theorem dX12_wrapAcross_123 : decode cX12_wrapAcross 123 = .ok (.iastore, 1) := by decide +kernel
theorem dX12_wrapAcross_124 : decode cX12_wrapAcross 124 = .ok (.aload_n 0, 1) := by decide +kernel
theorem dX12_wrapAcross_125 : decode cX12_wrapAcross 125 = .ok (.getfield 103, 3) := by decide +kernel
theorem dX12_wrapAcross_128 : decode cX12_wrapAcross 128 = .ok (.iload 5, 2) := by decide +kernel
theorem dX12_wrapAcross_130 : decode cX12_wrapAcross 130 = .ok (.iload 4, 2) := by decide +kernel
theorem dX12_wrapAcross_132 : decode cX12_wrapAcross 132 = .ok (.iastore, 1) := by decide +kernel
theorem dX12_wrapAcross_133 : decode cX12_wrapAcross 133 = .ok (.aload_n 0, 1) := by decide +kernel
theorem dX12_wrapAcross_134 : decode cX12_wrapAcross 134 = .ok (.getfield 110, 3) := by decide +kernel
theorem dX12_wrapAcross_137 : decode cX12_wrapAcross 137 = .ok (.aload_n 0, 1) := by decide +kernel
theorem dX12_wrapAcross_138 : decode cX12_wrapAcross 138 = .ok (.getfield 304, 3) := by decide +kernel
theorem dX12_wrapAcross_141 : decode cX12_wrapAcross 141 = .ok (.iload 5, 2) := by decide +kernel
theorem dX12_wrapAcross_143 : decode cX12_wrapAcross 143 = .ok (.iastore, 1) := by decide +kernel
theorem dX12_wrapAcross_144 : decode cX12_wrapAcross 144 = .ok (.aload_n 0, 1) := by decide +kernel
theorem dX12_wrapAcross_145 : decode cX12_wrapAcross 145 = .ok (.dup, 1) := by decide +kernel
theorem dX12_wrapAcross_146 : decode cX12_wrapAcross 146 = .ok (.getfield 304, 3) := by decide +kernel
theorem dX12_wrapAcross_149 : decode cX12_wrapAcross 149 = .ok (.iconst 1, 1) := by decide +kernel
theorem dX12_wrapAcross_150 : decode cX12_wrapAcross 150 = .ok (.iadd, 1) := by decide +kernel
theorem dX12_wrapAcross_151 : decode cX12_wrapAcross 151 = .ok (.putfield 304, 3) := by decide +kernel
theorem dX12_wrapAcross_154 : decode cX12_wrapAcross 154 = .ok (.iconst 1, 1) := by decide +kernel
theorem dX12_wrapAcross_155 : decode cX12_wrapAcross 155 = .ok (.ireturn, 1) := by decide +kernel
theorem dX12_doesWrap_0 : decode cX12_doesWrap 0 = .ok (.iconst 0, 1) := by decide +kernel
theorem dX12_doesWrap_1 : decode cX12_doesWrap 1 = .ok (.istore 4, 2) := by decide +kernel
theorem dX12_doesWrap_3 : decode cX12_doesWrap 3 = .ok (.iload 4, 2) := by decide +kernel
theorem dX12_doesWrap_5 : decode cX12_doesWrap 5 = .ok (.aload_n 0, 1) := by decide +kernel
theorem dX12_doesWrap_6 : decode cX12_doesWrap 6 = .ok (.getfield 127, 3) := by decide +kernel
theorem dX12_doesWrap_9 : decode cX12_doesWrap 9 = .ok (.if_icmp .ge 17, 3) := by decide +kernel
theorem dX12_doesWrap_12 : decode cX12_doesWrap 12 = .ok (.aload_n 0, 1) := by decide +kernel
theorem dX12_doesWrap_13 : decode cX12_doesWrap 13 = .ok (.getfield 100, 3) := by decide +kernel
theorem dX12_doesWrap_16 : decode cX12_doesWrap 16 = .ok (.iload 4, 2) := by decide +kernel
theorem dX12_doesWrap_18 : decode cX12_doesWrap 18 = .ok (.iconst (-1), 1) := by decide +kernel
theorem dX12_doesWrap_19 : decode cX12_doesWrap 19 = .ok (.iastore, 1) := by decide +kernel
theorem dX12_doesWrap_20 : decode cX12_doesWrap 20 = .ok (.iinc 4 1, 3) := by decide +kernel
theorem dX12_doesWrap_23 : decode cX12_doesWrap 23 = .ok (.goto (-20), 3) := by decide +kernel
theorem dX12_doesWrap_26 : decode cX12_doesWrap 26 = .ok (.iconst 0, 1) := by decide +kernel
theorem dX12_doesWrap_27 : decode cX12_doesWrap 27 = .ok (.istore 4, 2) := by decide +kernel
theorem dX12_doesWrap_29 : decode cX12_doesWrap 29 = .ok (.iload 4, 2) := by decide +kernel
theorem dX12_doesWrap_31 : decode cX12_doesWrap 31 = .ok (.aload_n 0, 1) := by decide +kernel
theorem dX12_doesWrap_32 : decode cX12_doesWrap 32 = .ok (.getfield 195, 3) := by decide +kernel
theorem dX12_doesWrap_35 : decode cX12_doesWrap 35 = .ok (.if_icmp .ge 27, 3) := by decide +kernel
theorem dX12_doesWrap_38 : decode cX12_doesWrap 38 = .ok (.aload_n 0, 1) := by decide +kernel
theorem dX12_doesWrap_39 : decode cX12_doesWrap 39 = .ok (.getfield 106, 3) := by decide +kernel
theorem dX12_doesWrap_42 : decode cX12_doesWrap 42 = .ok (.iload 4, 2) := by decide +kernel
theorem dX12_doesWrap_44 : decode cX12_doesWrap 44 = .ok (.iload 4, 2) := by decide +kernel
theorem dX12_doesWrap_46 : decode cX12_doesWrap 46 = .ok (.iload_n 2, 1) := by decide +kernel
theorem dX12_doesWrap_47 : decode cX12_doesWrap 47 = .ok (.if_icmp .ne 7, 3) := by decide +kernel
theorem dX12_doesWrap_50 : decode cX12_doesWrap 50 = .ok (.iconst 1, 1) := by decide +kernel
theorem dX12_doesWrap_51 : decode cX12_doesWrap 51 = .ok (.goto 4, 3) := by decide +kernel
theorem dX12_doesWrap_54 : decode cX12_doesWrap 54 = .ok (.iconst 0, 1) := by decide +kernel
theorem dX12_doesWrap_55 : decode cX12_doesWrap 55 = .ok (.bastore, 1) := by decide +kernel
theorem dX12_doesWrap_56 : decode cX12_doesWrap 56 = .ok (.iinc 4 1, 3) := by decide +kernel
theorem dX12_doesWrap_59 : decode cX12_doesWrap 59 = .ok (.goto (-30), 3) := by decide +kernel
theorem dX12_doesWrap_62 : decode cX12_doesWrap 62 = .ok (.aload_n 0, 1) := by decide +kernel
theorem dX12_doesWrap_63 : decode cX12_doesWrap 63 = .ok (.getfield 100, 3) := by decide +kernel
theorem dX12_doesWrap_66 : decode cX12_doesWrap 66 = .ok (.iload_n 1, 1) := by decide +kernel
theorem dX12_doesWrap_67 : decode cX12_doesWrap 67 = .ok (.iload_n 2, 1) := by decide +kernel
theorem dX12_doesWrap_68 : decode cX12_doesWrap 68 = .ok (.iastore, 1) := by decide +kernel
theorem dX12_doesWrap_69 : decode cX12_doesWrap 69 = .ok (.aload_n 0, 1) := by decide +kernel
theorem dX12_doesWrap_70 : decode cX12_doesWrap 70 = .ok (.getfield 103, 3) := by decide +kernel
theorem dX12_doesWrap_73 : decode cX12_doesWrap 73 = .ok (.iload_n 1, 1) := by decide +kernel
theorem dX12_doesWrap_74 : decode cX12_doesWrap 74 = .ok (.iload_n 3, 1) := by decide +kernel
theorem dX12_doesWrap_75 : decode cX12_doesWrap 75 = .ok (.iastore, 1) := by decide +kernel
theorem dX12_doesWrap_76 : decode cX12_doesWrap 76 = .ok (.aload_n 0, 1) := by decide +kernel
theorem dX12_doesWrap_77 : decode cX12_doesWrap 77 = .ok (.getfield 110, 3) := by decide +kernel
theorem dX12_doesWrap_80 : decode cX12_doesWrap 80 = .ok (.iconst 0, 1) := by decide +kernel
theorem dX12_doesWrap_81 : decode cX12_doesWrap 81 = .ok (.iload_n 1, 1) := by decide +kernel
theorem dX12_doesWrap_82 : decode cX12_doesWrap 82 = .ok (.iastore, 1) := by decide +kernel
theorem dX12_doesWrap_83 : decode cX12_doesWrap 83 = .ok (.aload_n 0, 1) := by decide +kernel
theorem dX12_doesWrap_84 : decode cX12_doesWrap 84 = .ok (.iconst 1, 1) := by decide +kernel
theorem dX12_doesWrap_85 : decode cX12_doesWrap 85 = .ok (.putfield 304, 3) := by decide +kernel
theorem dX12_doesWrap_88 : decode cX12_doesWrap 88 = .ok (.iconst 0, 1) := by decide +kernel
theorem dX12_doesWrap_89 : decode cX12_doesWrap 89 = .ok (.istore 4, 2) := by decide +kernel
theorem dX12_doesWrap_91 : decode cX12_doesWrap 91 = .ok (.iload 4, 2) := by decide +kernel
theorem dX12_doesWrap_93 : decode cX12_doesWrap 93 = .ok (.aload_n 0, 1) := by decide +kernel
theorem dX12_doesWrap_94 : decode cX12_doesWrap 94 = .ok (.getfield 304, 3) := by decide +kernel
theorem dX12_doesWrap_97 : decode cX12_doesWrap 97 = .ok (.if_icmp .ge 59, 3) := by decide +kernel
theorem dX12_doesWrap_100 : decode cX12_doesWrap 100 = .ok (.iconst 0, 1) := by decide +kernel
theorem dX12_doesWrap_101 : decode cX12_doesWrap 101 = .ok (.istore 5, 2) := by decide +kernel
theorem dX12_doesWrap_103 : decode cX12_doesWrap 103 = .ok (.iload 5, 2) := by decide +kernel
theorem dX12_doesWrap_105 : decode cX12_doesWrap 105 = .ok (.iconst 4, 1) := by decide +kernel
theorem dX12_doesWrap_106 : decode cX12_doesWrap 106 = .ok (.if_icmp .ge 44, 3) := by decide +kernel
theorem dX12_doesWrap_109 : decode cX12_doesWrap 109 = .ok (.aload_n 0, 1) := by decide +kernel
theorem dX12_doesWrap_110 : decode cX12_doesWrap 110 = .ok (.aload_n 0, 1) := by decide +kernel
theorem dX12_doesWrap_111 : decode cX12_doesWrap 111 = .ok (.getfield 110, 3) := by decide +kernel
theorem dX12_doesWrap_114 : decode cX12_doesWrap 114 = .ok (.iload 4, 2) := by decide +kernel
theorem dX12_doesWrap_116 : decode cX12_doesWrap 116 = .ok (.iaload, 1) := by decide +kernel
theorem dX12_doesWrap_117 : decode cX12_doesWrap 117 = .ok (.iload 5, 2) := by decide +kernel
theorem dX12_doesWrap_119 : decode cX12_doesWrap 119 = .ok (.invokevirtual 269, 3) := by decide +kernel
theorem dX12_doesWrap_122 : decode cX12_doesWrap 122 = .ok (.ifCond .eq 22, 3) := by decide +kernel
theorem dX12_doesWrap_125 : decode cX12_doesWrap 125 = .ok (.aload_n 0, 1) := by decide +kernel
theorem dX12_doesWrap_126 : decode cX12_doesWrap 126 = .ok (.aload_n 0, 1) := by decide +kernel
theorem dX12_doesWrap_127 : decode cX12_doesWrap 127 = .ok (.getfield 110, 3) := by decide +kernel
theorem dX12_doesWrap_130 : decode cX12_doesWrap 130 = .ok (.iload 4, 2) := by decide +kernel
theorem dX12_doesWrap_132 : decode cX12_doesWrap 132 = .ok (.iaload, 1) := by decide +kernel
theorem dX12_doesWrap_133 : decode cX12_doesWrap 133 = .ok (.iload 5, 2) := by decide +kernel
theorem dX12_doesWrap_135 : decode cX12_doesWrap 135 = .ok (.invokevirtual 307, 3) := by decide +kernel
theorem dX12_doesWrap_138 : decode cX12_doesWrap 138 = .ok (.iconst 2, 1) := by decide +kernel
theorem dX12_doesWrap_139 : decode cX12_doesWrap 139 = .ok (.if_icmp .ne 5, 3) := by decide +kernel
theorem dX12_doesWrap_142 : decode cX12_doesWrap 142 = .ok (.iconst 0, 1) := by decide +kernel
theorem dX12_doesWrap_143 : decode cX12_doesWrap 143 = .ok (.ireturn, 1) := by decide +kernel
theorem dX12_doesWrap_144 : decode cX12_doesWrap 144 = .ok (.iinc 5 1, 3) := by decide +kernel
theorem dX12_doesWrap_147 : decode cX12_doesWrap 147 = .ok (.goto (-44), 3) := by decide +kernel
theorem dX12_doesWrap_150 : decode cX12_doesWrap 150 = .ok (.iinc 4 1, 3) := by decide +kernel
theorem dX12_doesWrap_153 : decode cX12_doesWrap 153 = .ok (.goto (-62), 3) := by decide +kernel
theorem dX12_doesWrap_156 : decode cX12_doesWrap 156 = .ok (.aload_n 0, 1) := by decide +kernel
theorem dX12_doesWrap_157 : decode cX12_doesWrap 157 = .ok (.getfield 304, 3) := by decide +kernel
theorem dX12_doesWrap_160 : decode cX12_doesWrap 160 = .ok (.aload_n 0, 1) := by decide +kernel
theorem dX12_doesWrap_161 : decode cX12_doesWrap 161 = .ok (.getfield 127, 3) := by decide +kernel
theorem dX12_doesWrap_164 : decode cX12_doesWrap 164 = .ok (.if_icmp .ne 7, 3) := by decide +kernel
theorem dX12_doesWrap_167 : decode cX12_doesWrap 167 = .ok (.iconst 1, 1) := by decide +kernel
theorem dX12_doesWrap_168 : decode cX12_doesWrap 168 = .ok (.goto 4, 3) := by decide +kernel
theorem dX12_doesWrap_171 : decode cX12_doesWrap 171 = .ok (.iconst 0, 1) := by decide +kernel
theorem dX12_doesWrap_172 : decode cX12_doesWrap 172 = .ok (.ireturn, 1) := by decide +kernel
theorem dX12_findWraps_0 : decode cX12_findWraps 0 = .ok (.aload_n 0, 1) := by decide +kernel
theorem dX12_findWraps_1 : decode cX12_findWraps 1 = .ok (.iconst 0, 1) := by decide +kernel
theorem dX12_findWraps_2 : decode cX12_findWraps 2 = .ok (.putfield 310, 3) := by decide +kernel
theorem dX12_findWraps_5 : decode cX12_findWraps 5 = .ok (.aload_n 0, 1) := by decide +kernel
theorem dX12_findWraps_6 : decode cX12_findWraps 6 = .ok (.invokevirtual 223, 3) := by decide +kernel
theorem dX12_findWraps_9 : decode cX12_findWraps 9 = .ok (.aload_n 0, 1) := by decide +kernel
theorem dX12_findWraps_10 : decode cX12_findWraps 10 = .ok (.getfield 195, 3) := by decide +kernel
theorem dX12_findWraps_13 : decode cX12_findWraps 13 = .ok (.aload_n 0, 1) := by decide +kernel
theorem dX12_findWraps_14 : decode cX12_findWraps 14 = .ok (.getfield 127, 3) := by decide +kernel
theorem dX12_findWraps_17 : decode cX12_findWraps 17 = .ok (.if_icmp .eq 4, 3) := by decide +kernel
theorem dX12_findWraps_20 : decode cX12_findWraps 20 = .ok (.return_, 1) := by decide +kernel
theorem dX12_findWraps_21 : decode cX12_findWraps 21 = .ok (.iconst 0, 1) := by decide +kernel
theorem dX12_findWraps_22 : decode cX12_findWraps 22 = .ok (.istore_n 2, 1) := by decide +kernel
theorem dX12_findWraps_23 : decode cX12_findWraps 23 = .ok (.iload_n 2, 1) := by decide +kernel
theorem dX12_findWraps_24 : decode cX12_findWraps 24 = .ok (.iconst 2, 1) := by decide +kernel
theorem dX12_findWraps_25 : decode cX12_findWraps 25 = .ok (.if_icmp .ge 135, 3) := by decide +kernel
theorem dX12_findWraps_28 : decode cX12_findWraps 28 = .ok (.iload_n 2, 1) := by decide +kernel
theorem dX12_findWraps_29 : decode cX12_findWraps 29 = .ok (.ifCond .ne 7, 3) := by decide +kernel
theorem dX12_findWraps_32 : decode cX12_findWraps 32 = .ok (.iconst 0, 1) := by decide +kernel
theorem dX12_findWraps_33 : decode cX12_findWraps 33 = .ok (.goto 16, 3) := by decide +kernel
theorem dX12_findWraps_36 : decode cX12_findWraps 36 = .ok (.aload_n 0, 1) := by decide +kernel
theorem dX12_findWraps_37 : decode cX12_findWraps 37 = .ok (.aload_n 0, 1) := by decide +kernel
theorem dX12_findWraps_38 : decode cX12_findWraps 38 = .ok (.getfield 313, 3) := by decide +kernel
theorem dX12_findWraps_41 : decode cX12_findWraps 41 = .ok (.ineg, 1) := by decide +kernel
theorem dX12_findWraps_42 : decode cX12_findWraps 42 = .ok (.aload_n 0, 1) := by decide +kernel
theorem dX12_findWraps_43 : decode cX12_findWraps 43 = .ok (.getfield 316, 3) := by decide +kernel
theorem dX12_findWraps_46 : decode cX12_findWraps 46 = .ok (.invokevirtual 255, 3) := by decide +kernel
theorem dX12_findWraps_49 : decode cX12_findWraps 49 = .ok (.istore_n 3, 1) := by decide +kernel
theorem dX12_findWraps_50 : decode cX12_findWraps 50 = .ok (.iload_n 2, 1) := by decide +kernel
theorem dX12_findWraps_51 : decode cX12_findWraps 51 = .ok (.ifCond .ne 23, 3) := by decide +kernel
theorem dX12_findWraps_54 : decode cX12_findWraps 54 = .ok (.aload_n 0, 1) := by decide +kernel
theorem dX12_findWraps_55 : decode cX12_findWraps 55 = .ok (.aload_n 0, 1) := by decide +kernel
theorem dX12_findWraps_56 : decode cX12_findWraps 56 = .ok (.getfield 19, 3) := by decide +kernel
theorem dX12_findWraps_59 : decode cX12_findWraps 59 = .ok (.iconst 0, 1) := by decide +kernel
theorem dX12_findWraps_60 : decode cX12_findWraps 60 = .ok (.iaload, 1) := by decide +kernel
theorem dX12_findWraps_61 : decode cX12_findWraps 61 = .ok (.putfield 313, 3) := by decide +kernel
theorem dX12_findWraps_64 : decode cX12_findWraps 64 = .ok (.aload_n 0, 1) := by decide +kernel
theorem dX12_findWraps_65 : decode cX12_findWraps 65 = .ok (.aload_n 0, 1) := by decide +kernel
theorem dX12_findWraps_66 : decode cX12_findWraps 66 = .ok (.getfield 22, 3) := by decide +kernel
theorem dX12_findWraps_69 : decode cX12_findWraps 69 = .ok (.iconst 0, 1) := by decide +kernel
theorem dX12_findWraps_70 : decode cX12_findWraps 70 = .ok (.iaload, 1) := by decide +kernel
theorem dX12_findWraps_71 : decode cX12_findWraps 71 = .ok (.putfield 316, 3) := by decide +kernel
theorem dX12_findWraps_74 : decode cX12_findWraps 74 = .ok (.iconst 0, 1) := by decide +kernel
theorem dX12_findWraps_75 : decode cX12_findWraps 75 = .ok (.istore 4, 2) := by decide +kernel
theorem dX12_findWraps_77 : decode cX12_findWraps 77 = .ok (.iload 4, 2) := by decide +kernel
theorem dX12_findWraps_79 : decode cX12_findWraps 79 = .ok (.iconst 4, 1) := by decide +kernel
theorem dX12_findWraps_80 : decode cX12_findWraps 80 = .ok (.aload_n 0, 1) := by decide +kernel
theorem dX12_findWraps_81 : decode cX12_findWraps 81 = .ok (.getfield 195, 3) := by decide +kernel
theorem dX12_findWraps_84 : decode cX12_findWraps 84 = .ok (.imul, 1) := by decide +kernel
theorem dX12_findWraps_85 : decode cX12_findWraps 85 = .ok (.if_icmp .ge 64, 3) := by decide +kernel
theorem dX12_findWraps_88 : decode cX12_findWraps 88 = .ok (.aload_n 0, 1) := by decide +kernel
theorem dX12_findWraps_89 : decode cX12_findWraps 89 = .ok (.iload_n 3, 1) := by decide +kernel
theorem dX12_findWraps_90 : decode cX12_findWraps 90 = .ok (.iload 4, 2) := by decide +kernel
theorem dX12_findWraps_92 : decode cX12_findWraps 92 = .ok (.iconst 4, 1) := by decide +kernel
theorem dX12_findWraps_93 : decode cX12_findWraps 93 = .ok (.idiv, 1) := by decide +kernel
theorem dX12_findWraps_94 : decode cX12_findWraps 94 = .ok (.iload 4, 2) := by decide +kernel
theorem dX12_findWraps_96 : decode cX12_findWraps 96 = .ok (.iconst 4, 1) := by decide +kernel
theorem dX12_findWraps_97 : decode cX12_findWraps 97 = .ok (.irem, 1) := by decide +kernel
theorem dX12_findWraps_98 : decode cX12_findWraps 98 = .ok (.invokevirtual 319, 3) := by decide +kernel
theorem dX12_findWraps_101 : decode cX12_findWraps 101 = .ok (.ifCond .eq 42, 3) := by decide +kernel
theorem dX12_findWraps_104 : decode cX12_findWraps 104 = .ok (.aload_n 0, 1) := by decide +kernel
theorem dX12_findWraps_105 : decode cX12_findWraps 105 = .ok (.getfield 310, 3) := by decide +kernel
theorem dX12_findWraps_108 : decode cX12_findWraps 108 = .ok (.iload_n 1, 1) := by decide +kernel
theorem dX12_findWraps_109 : decode cX12_findWraps 109 = .ok (.if_icmp .ne 24, 3) := by decide +kernel
theorem dX12_findWraps_112 : decode cX12_findWraps 112 = .ok (.aload_n 0, 1) := by decide +kernel
theorem dX12_findWraps_113 : decode cX12_findWraps 113 = .ok (.iload 4, 2) := by decide +kernel
theorem dX12_findWraps_115 : decode cX12_findWraps 115 = .ok (.iconst 4, 1) := by decide +kernel
theorem dX12_findWraps_116 : decode cX12_findWraps 116 = .ok (.idiv, 1) := by decide +kernel
theorem dX12_findWraps_117 : decode cX12_findWraps 117 = .ok (.putfield 322, 3) := by decide +kernel
theorem dX12_findWraps_120 : decode cX12_findWraps 120 = .ok (.aload_n 0, 1) := by decide +kernel
theorem dX12_findWraps_121 : decode cX12_findWraps 121 = .ok (.iload 4, 2) := by decide +kernel
theorem dX12_findWraps_123 : decode cX12_findWraps 123 = .ok (.iconst 4, 1) := by decide +kernel
theorem dX12_findWraps_124 : decode cX12_findWraps 124 = .ok (.irem, 1) := by decide +kernel
theorem dX12_findWraps_125 : decode cX12_findWraps 125 = .ok (.putfield 325, 3) := by decide +kernel
theorem dX12_findWraps_128 : decode cX12_findWraps 128 = .ok (.aload_n 0, 1) := by decide +kernel
theorem dX12_findWraps_129 : decode cX12_findWraps 129 = .ok (.iload_n 2, 1) := by decide +kernel
theorem dX12_findWraps_130 : decode cX12_findWraps 130 = .ok (.putfield 328, 3) := by decide +kernel
theorem dX12_findWraps_133 : decode cX12_findWraps 133 = .ok (.aload_n 0, 1) := by decide +kernel
theorem dX12_findWraps_134 : decode cX12_findWraps 134 = .ok (.dup, 1) := by decide +kernel
theorem dX12_findWraps_135 : decode cX12_findWraps 135 = .ok (.getfield 310, 3) := by decide +kernel
theorem dX12_findWraps_138 : decode cX12_findWraps 138 = .ok (.iconst 1, 1) := by decide +kernel
theorem dX12_findWraps_139 : decode cX12_findWraps 139 = .ok (.iadd, 1) := by decide +kernel
theorem dX12_findWraps_140 : decode cX12_findWraps 140 = .ok (.putfield 310, 3) := by decide +kernel
theorem dX12_findWraps_143 : decode cX12_findWraps 143 = .ok (.iinc 4 1, 3) := by decide +kernel
theorem dX12_findWraps_146 : decode cX12_findWraps 146 = .ok (.goto (-69), 3) := by decide +kernel
theorem dX12_findWraps_149 : decode cX12_findWraps 149 = .ok (.aload_n 0, 1) := by decide +kernel
theorem dX12_findWraps_150 : decode cX12_findWraps 150 = .ok (.iconst 1, 1) := by decide +kernel
theorem dX12_findWraps_151 : decode cX12_findWraps 151 = .ok (.invokevirtual 275, 3) := by decide +kernel
theorem dX12_findWraps_154 : decode cX12_findWraps 154 = .ok (.iinc 2 1, 3) := by decide +kernel
theorem dX12_findWraps_157 : decode cX12_findWraps 157 = .ok (.goto (-134), 3) := by decide +kernel
theorem dX12_findWraps_160 : decode cX12_findWraps 160 = .ok (.return_, 1) := by decide +kernel
theorem dX12_wraps_0 : decode cX12_wraps 0 = .ok (.aload_n 0, 1) := by decide +kernel
theorem dX12_wraps_1 : decode cX12_wraps 1 = .ok (.iconst 0, 1) := by decide +kernel
theorem dX12_wraps_2 : decode cX12_wraps 2 = .ok (.putfield 113, 3) := by decide +kernel
theorem dX12_wraps_5 : decode cX12_wraps 5 = .ok (.aload_n 0, 1) := by decide +kernel
theorem dX12_wraps_6 : decode cX12_wraps 6 = .ok (.invokevirtual 182, 3) := by decide +kernel
theorem dX12_wraps_9 : decode cX12_wraps 9 = .ok (.ifCond .eq 6, 3) := by decide +kernel
theorem dX12_wraps_12 : decode cX12_wraps 12 = .ok (.bipush (-4), 2) := by decide +kernel
theorem dX12_wraps_14 : decode cX12_wraps 14 = .ok (.ireturn, 1) := by decide +kernel
theorem dX12_wraps_15 : decode cX12_wraps 15 = .ok (.aload_n 0, 1) := by decide +kernel
theorem dX12_wraps_16 : decode cX12_wraps 16 = .ok (.iconst (-1), 1) := by decide +kernel
theorem dX12_wraps_17 : decode cX12_wraps 17 = .ok (.invokevirtual 331, 3) := by decide +kernel
theorem dX12_wraps_20 : decode cX12_wraps 20 = .ok (.aload_n 0, 1) := by decide +kernel
theorem dX12_wraps_21 : decode cX12_wraps 21 = .ok (.getfield 310, 3) := by decide +kernel
theorem dX12_wraps_24 : decode cX12_wraps 24 = .ok (.ireturn, 1) := by decide +kernel
theorem dX12_way_0 : decode cX12_way 0 = .ok (.aload_n 0, 1) := by decide +kernel
theorem dX12_way_1 : decode cX12_way 1 = .ok (.iconst 0, 1) := by decide +kernel
theorem dX12_way_2 : decode cX12_way 2 = .ok (.putfield 113, 3) := by decide +kernel
theorem dX12_way_5 : decode cX12_way 5 = .ok (.iload_n 1, 1) := by decide +kernel
theorem dX12_way_6 : decode cX12_way 6 = .ok (.ifCond .lt 12, 3) := by decide +kernel
theorem dX12_way_9 : decode cX12_way 9 = .ok (.iload_n 2, 1) := by decide +kernel
theorem dX12_way_10 : decode cX12_way 10 = .ok (.iconst 0, 1) := by decide +kernel
theorem dX12_way_11 : decode cX12_way 11 = .ok (.iconst 2, 1) := by decide +kernel
theorem dX12_way_12 : decode cX12_way 12 = .ok (.invokestatic 139, 3) := by decide +kernel
theorem dX12_way_15 : decode cX12_way 15 = .ok (.ifCond .ne 6, 3) := by decide +kernel
theorem dX12_way_18 : decode cX12_way 18 = .ok (.bipush (-3), 2) := by decide +kernel
theorem dX12_way_20 : decode cX12_way 20 = .ok (.ireturn, 1) := by decide +kernel
theorem dX12_way_21 : decode cX12_way 21 = .ok (.aload_n 0, 1) := by decide +kernel
theorem dX12_way_22 : decode cX12_way 22 = .ok (.invokevirtual 182, 3) := by decide +kernel
theorem dX12_way_25 : decode cX12_way 25 = .ok (.ifCond .eq 6, 3) := by decide +kernel
theorem dX12_way_28 : decode cX12_way 28 = .ok (.bipush (-4), 2) := by decide +kernel
theorem dX12_way_30 : decode cX12_way 30 = .ok (.ireturn, 1) := by decide +kernel
theorem dX12_way_31 : decode cX12_way 31 = .ok (.aload_n 0, 1) := by decide +kernel
theorem dX12_way_32 : decode cX12_way 32 = .ok (.iload_n 1, 1) := by decide +kernel
theorem dX12_way_33 : decode cX12_way 33 = .ok (.invokevirtual 331, 3) := by decide +kernel
theorem dX12_way_36 : decode cX12_way 36 = .ok (.iload_n 1, 1) := by decide +kernel
theorem dX12_way_37 : decode cX12_way 37 = .ok (.aload_n 0, 1) := by decide +kernel
theorem dX12_way_38 : decode cX12_way 38 = .ok (.getfield 310, 3) := by decide +kernel
theorem dX12_way_41 : decode cX12_way 41 = .ok (.if_icmp .lt 7, 3) := by decide +kernel
theorem dX12_way_44 : decode cX12_way 44 = .ok (.iconst (-1), 1) := by decide +kernel
theorem dX12_way_45 : decode cX12_way 45 = .ok (.goto 30, 3) := by decide +kernel
theorem dX12_way_48 : decode cX12_way 48 = .ok (.iload_n 2, 1) := by decide +kernel
theorem dX12_way_49 : decode cX12_way 49 = .ok (.ifCond .ne 10, 3) := by decide +kernel
theorem dX12_way_52 : decode cX12_way 52 = .ok (.aload_n 0, 1) := by decide +kernel
theorem dX12_way_53 : decode cX12_way 53 = .ok (.getfield 322, 3) := by decide +kernel
theorem dX12_way_56 : decode cX12_way 56 = .ok (.goto 19, 3) := by decide +kernel
theorem dX12_way_59 : decode cX12_way 59 = .ok (.iload_n 2, 1) := by decide +kernel
theorem dX12_way_60 : decode cX12_way 60 = .ok (.iconst 1, 1) := by decide +kernel
theorem dX12_way_61 : decode cX12_way 61 = .ok (.if_icmp .ne 10, 3) := by decide +kernel
theorem dX12_way_64 : decode cX12_way 64 = .ok (.aload_n 0, 1) := by decide +kernel
theorem dX12_way_65 : decode cX12_way 65 = .ok (.getfield 325, 3) := by decide +kernel
theorem dX12_way_68 : decode cX12_way 68 = .ok (.goto 7, 3) := by decide +kernel
theorem dX12_way_71 : decode cX12_way 71 = .ok (.aload_n 0, 1) := by decide +kernel
theorem dX12_way_72 : decode cX12_way 72 = .ok (.getfield 328, 3) := by decide +kernel
theorem dX12_way_75 : decode cX12_way 75 = .ok (.ireturn, 1) := by decide +kernel
theorem dX12_count_0 : decode cX12_count 0 = .ok (.aload_n 0, 1) := by decide +kernel
theorem dX12_count_1 : decode cX12_count 1 = .ok (.iconst 0, 1) := by decide +kernel
theorem dX12_count_2 : decode cX12_count 2 = .ok (.putfield 113, 3) := by decide +kernel
theorem dX12_count_5 : decode cX12_count 5 = .ok (.iload_n 1, 1) := by decide +kernel
theorem dX12_count_6 : decode cX12_count 6 = .ok (.tableswitch 101 0 4 #[34, 58, 86, 91, 96], 34) := by decide +kernel
theorem dX12_count_40 : decode cX12_count 40 = .ok (.aload_n 0, 1) := by decide +kernel
theorem dX12_count_41 : decode cX12_count 41 = .ok (.iconst 0, 1) := by decide +kernel
theorem dX12_count_42 : decode cX12_count 42 = .ok (.invokevirtual 146, 3) := by decide +kernel
theorem dX12_count_45 : decode cX12_count 45 = .ok (.aload_n 0, 1) := by decide +kernel
theorem dX12_count_46 : decode cX12_count 46 = .ok (.iconst 1, 1) := by decide +kernel
theorem dX12_count_47 : decode cX12_count 47 = .ok (.invokevirtual 146, 3) := by decide +kernel
theorem dX12_count_50 : decode cX12_count 50 = .ok (.iadd, 1) := by decide +kernel
theorem dX12_count_51 : decode cX12_count 51 = .ok (.aload_n 0, 1) := by decide +kernel
theorem dX12_count_52 : decode cX12_count 52 = .ok (.iconst 2, 1) := by decide +kernel
theorem dX12_count_53 : decode cX12_count 53 = .ok (.invokevirtual 146, 3) := by decide +kernel
theorem dX12_count_56 : decode cX12_count 56 = .ok (.iadd, 1) := by decide +kernel
theorem dX12_count_57 : decode cX12_count 57 = .ok (.aload_n 0, 1) := by decide +kernel
theorem dX12_count_58 : decode cX12_count 58 = .ok (.iconst 3, 1) := by decide +kernel
theorem dX12_count_59 : decode cX12_count 59 = .ok (.invokevirtual 146, 3) := by decide +kernel
theorem dX12_count_62 : decode cX12_count 62 = .ok (.iadd, 1) := by decide +kernel
theorem dX12_count_63 : decode cX12_count 63 = .ok (.ireturn, 1) := by decide +kernel
theorem dX12_count_64 : decode cX12_count 64 = .ok (.aload_n 0, 1) := by decide +kernel
theorem dX12_count_65 : decode cX12_count 65 = .ok (.getfield 7, 3) := by decide +kernel
theorem dX12_count_68 : decode cX12_count 68 = .ok (.iconst 0, 1) := by decide +kernel
theorem dX12_count_69 : decode cX12_count 69 = .ok (.iaload, 1) := by decide +kernel
theorem dX12_count_70 : decode cX12_count 70 = .ok (.aload_n 0, 1) := by decide +kernel
theorem dX12_count_71 : decode cX12_count 71 = .ok (.getfield 7, 3) := by decide +kernel
theorem dX12_count_74 : decode cX12_count 74 = .ok (.iconst 1, 1) := by decide +kernel
theorem dX12_count_75 : decode cX12_count 75 = .ok (.iaload, 1) := by decide +kernel
theorem dX12_count_76 : decode cX12_count 76 = .ok (.iadd, 1) := by decide +kernel
theorem dX12_count_77 : decode cX12_count 77 = .ok (.aload_n 0, 1) := by decide +kernel
theorem dX12_count_78 : decode cX12_count 78 = .ok (.getfield 7, 3) := by decide +kernel
theorem dX12_count_81 : decode cX12_count 81 = .ok (.iconst 2, 1) := by decide +kernel
theorem dX12_count_82 : decode cX12_count 82 = .ok (.iaload, 1) := by decide +kernel
theorem dX12_count_83 : decode cX12_count 83 = .ok (.iadd, 1) := by decide +kernel
theorem dX12_count_84 : decode cX12_count 84 = .ok (.aload_n 0, 1) := by decide +kernel
theorem dX12_count_85 : decode cX12_count 85 = .ok (.getfield 7, 3) := by decide +kernel
theorem dX12_count_88 : decode cX12_count 88 = .ok (.iconst 3, 1) := by decide +kernel
theorem dX12_count_89 : decode cX12_count 89 = .ok (.iaload, 1) := by decide +kernel
theorem dX12_count_90 : decode cX12_count 90 = .ok (.iadd, 1) := by decide +kernel
theorem dX12_count_91 : decode cX12_count 91 = .ok (.ireturn, 1) := by decide +kernel
theorem dX12_count_92 : decode cX12_count 92 = .ok (.aload_n 0, 1) := by decide +kernel
theorem dX12_count_93 : decode cX12_count 93 = .ok (.getfield 127, 3) := by decide +kernel
theorem dX12_count_96 : decode cX12_count 96 = .ok (.ireturn, 1) := by decide +kernel
theorem dX12_count_97 : decode cX12_count 97 = .ok (.aload_n 0, 1) := by decide +kernel
theorem dX12_count_98 : decode cX12_count 98 = .ok (.invokevirtual 245, 3) := by decide +kernel
theorem dX12_count_101 : decode cX12_count 101 = .ok (.ireturn, 1) := by decide +kernel
theorem dX12_count_102 : decode cX12_count 102 = .ok (.aload_n 0, 1) := by decide +kernel
theorem dX12_count_103 : decode cX12_count 103 = .ok (.getfield 130, 3) := by decide +kernel
theorem dX12_count_106 : decode cX12_count 106 = .ok (.ireturn, 1) := by decide +kernel
theorem dX12_count_107 : decode cX12_count 107 = .ok (.bipush (-3), 2) := by decide +kernel
theorem dX12_count_109 : decode cX12_count 109 = .ok (.ireturn, 1) := by decide +kernel
theorem dJ6_bitCount_0f7a4_0 : decode cJ6_bitCount_0f7a4 0 = .ok (.iload_n 0, 1) := by decide +kernel
theorem dJ6_bitCount_0f7a4_1 : decode cJ6_bitCount_0f7a4 1 = .ok (.iload_n 0, 1) := by decide +kernel
theorem dJ6_bitCount_0f7a4_2 : decode cJ6_bitCount_0f7a4 2 = .ok (.iconst 1, 1) := by decide +kernel
theorem dJ6_bitCount_0f7a4_3 : decode cJ6_bitCount_0f7a4 3 = .ok (.iushr, 1) := by decide +kernel
theorem dJ6_bitCount_0f7a4_4 : decode cJ6_bitCount_0f7a4 4 = .ok (.ldc_w 265, 3) := by decide +kernel
theorem dJ6_bitCount_0f7a4_7 : decode cJ6_bitCount_0f7a4 7 = .ok (.iand, 1) := by decide +kernel
theorem dJ6_bitCount_0f7a4_8 : decode cJ6_bitCount_0f7a4 8 = .ok (.isub, 1) := by decide +kernel
theorem dJ6_bitCount_0f7a4_9 : decode cJ6_bitCount_0f7a4 9 = .ok (.istore_n 0, 1) := by decide +kernel
theorem dJ6_bitCount_0f7a4_10 : decode cJ6_bitCount_0f7a4 10 = .ok (.iload_n 0, 1) := by decide +kernel
theorem dJ6_bitCount_0f7a4_11 : decode cJ6_bitCount_0f7a4 11 = .ok (.ldc_w 266, 3) := by decide +kernel
theorem dJ6_bitCount_0f7a4_14 : decode cJ6_bitCount_0f7a4 14 = .ok (.iand, 1) := by decide +kernel
theorem dJ6_bitCount_0f7a4_15 : decode cJ6_bitCount_0f7a4 15 = .ok (.iload_n 0, 1) := by decide +kernel
theorem dJ6_bitCount_0f7a4_16 : decode cJ6_bitCount_0f7a4 16 = .ok (.iconst 2, 1) := by decide +kernel
theorem dJ6_bitCount_0f7a4_17 : decode cJ6_bitCount_0f7a4 17 = .ok (.iushr, 1) := by decide +kernel
theorem dJ6_bitCount_0f7a4_18 : decode cJ6_bitCount_0f7a4 18 = .ok (.ldc_w 266, 3) := by decide +kernel
theorem dJ6_bitCount_0f7a4_21 : decode cJ6_bitCount_0f7a4 21 = .ok (.iand, 1) := by decide +kernel
theorem dJ6_bitCount_0f7a4_22 : decode cJ6_bitCount_0f7a4 22 = .ok (.iadd, 1) := by decide +kernel
theorem dJ6_bitCount_0f7a4_23 : decode cJ6_bitCount_0f7a4 23 = .ok (.istore_n 0, 1) := by decide +kernel
theorem dJ6_bitCount_0f7a4_24 : decode cJ6_bitCount_0f7a4 24 = .ok (.iload_n 0, 1) := by decide +kernel
theorem dJ6_bitCount_0f7a4_25 : decode cJ6_bitCount_0f7a4 25 = .ok (.iload_n 0, 1) := by decide +kernel
theorem dJ6_bitCount_0f7a4_26 : decode cJ6_bitCount_0f7a4 26 = .ok (.iconst 4, 1) := by decide +kernel
theorem dJ6_bitCount_0f7a4_27 : decode cJ6_bitCount_0f7a4 27 = .ok (.iushr, 1) := by decide +kernel
theorem dJ6_bitCount_0f7a4_28 : decode cJ6_bitCount_0f7a4 28 = .ok (.iadd, 1) := by decide +kernel
theorem dJ6_bitCount_0f7a4_29 : decode cJ6_bitCount_0f7a4 29 = .ok (.ldc_w 267, 3) := by decide +kernel
theorem dJ6_bitCount_0f7a4_32 : decode cJ6_bitCount_0f7a4 32 = .ok (.iand, 1) := by decide +kernel
theorem dJ6_bitCount_0f7a4_33 : decode cJ6_bitCount_0f7a4 33 = .ok (.istore_n 0, 1) := by decide +kernel
theorem dJ6_bitCount_0f7a4_34 : decode cJ6_bitCount_0f7a4 34 = .ok (.iload_n 0, 1) := by decide +kernel
theorem dJ6_bitCount_0f7a4_35 : decode cJ6_bitCount_0f7a4 35 = .ok (.iload_n 0, 1) := by decide +kernel
theorem dJ6_bitCount_0f7a4_36 : decode cJ6_bitCount_0f7a4 36 = .ok (.bipush 8, 2) := by decide +kernel
theorem dJ6_bitCount_0f7a4_38 : decode cJ6_bitCount_0f7a4 38 = .ok (.iushr, 1) := by decide +kernel
theorem dJ6_bitCount_0f7a4_39 : decode cJ6_bitCount_0f7a4 39 = .ok (.iadd, 1) := by decide +kernel
theorem dJ6_bitCount_0f7a4_40 : decode cJ6_bitCount_0f7a4 40 = .ok (.istore_n 0, 1) := by decide +kernel
theorem dJ6_bitCount_0f7a4_41 : decode cJ6_bitCount_0f7a4 41 = .ok (.iload_n 0, 1) := by decide +kernel
theorem dJ6_bitCount_0f7a4_42 : decode cJ6_bitCount_0f7a4 42 = .ok (.iload_n 0, 1) := by decide +kernel
theorem dJ6_bitCount_0f7a4_43 : decode cJ6_bitCount_0f7a4 43 = .ok (.bipush 16, 2) := by decide +kernel
theorem dJ6_bitCount_0f7a4_45 : decode cJ6_bitCount_0f7a4 45 = .ok (.iushr, 1) := by decide +kernel
theorem dJ6_bitCount_0f7a4_46 : decode cJ6_bitCount_0f7a4 46 = .ok (.iadd, 1) := by decide +kernel
theorem dJ6_bitCount_0f7a4_47 : decode cJ6_bitCount_0f7a4 47 = .ok (.istore_n 0, 1) := by decide +kernel
theorem dJ6_bitCount_0f7a4_48 : decode cJ6_bitCount_0f7a4 48 = .ok (.iload_n 0, 1) := by decide +kernel
theorem dJ6_bitCount_0f7a4_49 : decode cJ6_bitCount_0f7a4 49 = .ok (.bipush 63, 2) := by decide +kernel
theorem dJ6_bitCount_0f7a4_51 : decode cJ6_bitCount_0f7a4 51 = .ok (.iand, 1) := by decide +kernel
theorem dJ6_bitCount_0f7a4_52 : decode cJ6_bitCount_0f7a4 52 = .ok (.ireturn, 1) := by decide +kernel
theorem dJ13_bitCount_95d88_0 : decode cJ13_bitCount_95d88 0 = .ok (.lload_n 0, 1) := by decide +kernel
theorem dJ13_bitCount_95d88_1 : decode cJ13_bitCount_95d88 1 = .ok (.lload_n 0, 1) := by decide +kernel
theorem dJ13_bitCount_95d88_2 : decode cJ13_bitCount_95d88 2 = .ok (.iconst 1, 1) := by decide +kernel
theorem dJ13_bitCount_95d88_3 : decode cJ13_bitCount_95d88 3 = .ok (.lushr, 1) := by decide +kernel
theorem dJ13_bitCount_95d88_4 : decode cJ13_bitCount_95d88 4 = .ok (.ldc2_w 314, 3) := by decide +kernel
theorem dJ13_bitCount_95d88_7 : decode cJ13_bitCount_95d88 7 = .ok (.land, 1) := by decide +kernel
theorem dJ13_bitCount_95d88_8 : decode cJ13_bitCount_95d88 8 = .ok (.lsub, 1) := by decide +kernel
theorem dJ13_bitCount_95d88_9 : decode cJ13_bitCount_95d88 9 = .ok (.lstore_n 0, 1) := by decide +kernel
theorem dJ13_bitCount_95d88_10 : decode cJ13_bitCount_95d88 10 = .ok (.lload_n 0, 1) := by decide +kernel
theorem dJ13_bitCount_95d88_11 : decode cJ13_bitCount_95d88 11 = .ok (.ldc2_w 316, 3) := by decide +kernel
theorem dJ13_bitCount_95d88_14 : decode cJ13_bitCount_95d88 14 = .ok (.land, 1) := by decide +kernel
theorem dJ13_bitCount_95d88_15 : decode cJ13_bitCount_95d88 15 = .ok (.lload_n 0, 1) := by decide +kernel
theorem dJ13_bitCount_95d88_16 : decode cJ13_bitCount_95d88 16 = .ok (.iconst 2, 1) := by decide +kernel
theorem dJ13_bitCount_95d88_17 : decode cJ13_bitCount_95d88 17 = .ok (.lushr, 1) := by decide +kernel
theorem dJ13_bitCount_95d88_18 : decode cJ13_bitCount_95d88 18 = .ok (.ldc2_w 316, 3) := by decide +kernel
theorem dJ13_bitCount_95d88_21 : decode cJ13_bitCount_95d88 21 = .ok (.land, 1) := by decide +kernel
theorem dJ13_bitCount_95d88_22 : decode cJ13_bitCount_95d88 22 = .ok (.ladd, 1) := by decide +kernel
theorem dJ13_bitCount_95d88_23 : decode cJ13_bitCount_95d88 23 = .ok (.lstore_n 0, 1) := by decide +kernel
theorem dJ13_bitCount_95d88_24 : decode cJ13_bitCount_95d88 24 = .ok (.lload_n 0, 1) := by decide +kernel
theorem dJ13_bitCount_95d88_25 : decode cJ13_bitCount_95d88 25 = .ok (.lload_n 0, 1) := by decide +kernel
theorem dJ13_bitCount_95d88_26 : decode cJ13_bitCount_95d88 26 = .ok (.iconst 4, 1) := by decide +kernel
theorem dJ13_bitCount_95d88_27 : decode cJ13_bitCount_95d88 27 = .ok (.lushr, 1) := by decide +kernel
theorem dJ13_bitCount_95d88_28 : decode cJ13_bitCount_95d88 28 = .ok (.ladd, 1) := by decide +kernel
theorem dJ13_bitCount_95d88_29 : decode cJ13_bitCount_95d88 29 = .ok (.ldc2_w 318, 3) := by decide +kernel
theorem dJ13_bitCount_95d88_32 : decode cJ13_bitCount_95d88 32 = .ok (.land, 1) := by decide +kernel
theorem dJ13_bitCount_95d88_33 : decode cJ13_bitCount_95d88 33 = .ok (.lstore_n 0, 1) := by decide +kernel
theorem dJ13_bitCount_95d88_34 : decode cJ13_bitCount_95d88 34 = .ok (.lload_n 0, 1) := by decide +kernel
theorem dJ13_bitCount_95d88_35 : decode cJ13_bitCount_95d88 35 = .ok (.lload_n 0, 1) := by decide +kernel
theorem dJ13_bitCount_95d88_36 : decode cJ13_bitCount_95d88 36 = .ok (.bipush 8, 2) := by decide +kernel
theorem dJ13_bitCount_95d88_38 : decode cJ13_bitCount_95d88 38 = .ok (.lushr, 1) := by decide +kernel
theorem dJ13_bitCount_95d88_39 : decode cJ13_bitCount_95d88 39 = .ok (.ladd, 1) := by decide +kernel
theorem dJ13_bitCount_95d88_40 : decode cJ13_bitCount_95d88 40 = .ok (.lstore_n 0, 1) := by decide +kernel
theorem dJ13_bitCount_95d88_41 : decode cJ13_bitCount_95d88 41 = .ok (.lload_n 0, 1) := by decide +kernel
theorem dJ13_bitCount_95d88_42 : decode cJ13_bitCount_95d88 42 = .ok (.lload_n 0, 1) := by decide +kernel
theorem dJ13_bitCount_95d88_43 : decode cJ13_bitCount_95d88 43 = .ok (.bipush 16, 2) := by decide +kernel
theorem dJ13_bitCount_95d88_45 : decode cJ13_bitCount_95d88 45 = .ok (.lushr, 1) := by decide +kernel
theorem dJ13_bitCount_95d88_46 : decode cJ13_bitCount_95d88 46 = .ok (.ladd, 1) := by decide +kernel
theorem dJ13_bitCount_95d88_47 : decode cJ13_bitCount_95d88 47 = .ok (.lstore_n 0, 1) := by decide +kernel
theorem dJ13_bitCount_95d88_48 : decode cJ13_bitCount_95d88 48 = .ok (.lload_n 0, 1) := by decide +kernel
theorem dJ13_bitCount_95d88_49 : decode cJ13_bitCount_95d88 49 = .ok (.lload_n 0, 1) := by decide +kernel
theorem dJ13_bitCount_95d88_50 : decode cJ13_bitCount_95d88 50 = .ok (.bipush 32, 2) := by decide +kernel
theorem dJ13_bitCount_95d88_52 : decode cJ13_bitCount_95d88 52 = .ok (.lushr, 1) := by decide +kernel
theorem dJ13_bitCount_95d88_53 : decode cJ13_bitCount_95d88 53 = .ok (.ladd, 1) := by decide +kernel
theorem dJ13_bitCount_95d88_54 : decode cJ13_bitCount_95d88 54 = .ok (.lstore_n 0, 1) := by decide +kernel
theorem dJ13_bitCount_95d88_55 : decode cJ13_bitCount_95d88 55 = .ok (.lload_n 0, 1) := by decide +kernel
theorem dJ13_bitCount_95d88_56 : decode cJ13_bitCount_95d88 56 = .ok (.l2i, 1) := by decide +kernel
theorem dJ13_bitCount_95d88_57 : decode cJ13_bitCount_95d88 57 = .ok (.bipush 127, 2) := by decide +kernel
theorem dJ13_bitCount_95d88_59 : decode cJ13_bitCount_95d88 59 = .ok (.iand, 1) := by decide +kernel
theorem dJ13_bitCount_95d88_60 : decode cJ13_bitCount_95d88 60 = .ok (.ireturn, 1) := by decide +kernel
theorem dJ9_abs_0f7a4_0 : decode cJ9_abs_0f7a4 0 = .ok (.iload_n 0, 1) := by decide +kernel
theorem dJ9_abs_0f7a4_1 : decode cJ9_abs_0f7a4 1 = .ok (.ifCond .ge 8, 3) := by decide +kernel
theorem dJ9_abs_0f7a4_4 : decode cJ9_abs_0f7a4 4 = .ok (.iload_n 0, 1) := by decide +kernel
theorem dJ9_abs_0f7a4_5 : decode cJ9_abs_0f7a4 5 = .ok (.ineg, 1) := by decide +kernel
theorem dJ9_abs_0f7a4_6 : decode cJ9_abs_0f7a4 6 = .ok (.goto 4, 3) := by decide +kernel
theorem dJ9_abs_0f7a4_9 : decode cJ9_abs_0f7a4 9 = .ok (.iload_n 0, 1) := by decide +kernel
theorem dJ9_abs_0f7a4_10 : decode cJ9_abs_0f7a4 10 = .ok (.ireturn, 1) := by decide +kernel
theorem dJ9_min_7cf53_0 : decode cJ9_min_7cf53 0 = .ok (.iload_n 0, 1) := by decide +kernel
end
section
theorem dJ9_min_7cf53_1 : decode cJ9_min_7cf53 1 = .ok (.iload_n 1, 1) := by decide +kernel
theorem dJ9_min_7cf53_2 : decode cJ9_min_7cf53 2 = .ok (.if_icmp .gt 7, 3) := by decide +kernel
theorem dJ9_min_7cf53_5 : decode cJ9_min_7cf53 5 = .ok (.iload_n 0, 1) := by decide +kernel
theorem dJ9_min_7cf53_6 : decode cJ9_min_7cf53 6 = .ok (.goto 4, 3) := by decide +kernel
theorem dJ9_min_7cf53_9 : decode cJ9_min_7cf53 9 = .ok (.iload_n 1, 1) := by decide +kernel
theorem dJ9_min_7cf53_10 : decode cJ9_min_7cf53 10 = .ok (.ireturn, 1) := by decide +kernel
theorem dJ7_fill_53178_0 : decode cJ7_fill_53178 0 = .ok (.iconst 0, 1) := by decide +kernel
theorem dJ7_fill_53178_1 : decode cJ7_fill_53178 1 = .ok (.istore_n 2, 1) := by decide +kernel
theorem dJ7_fill_53178_2 : decode cJ7_fill_53178 2 = .ok (.aload_n 0, 1) := by decide +kernel
theorem dJ7_fill_53178_3 : decode cJ7_fill_53178 3 = .ok (.arraylength, 1) := by decide +kernel
theorem dJ7_fill_53178_4 : decode cJ7_fill_53178 4 = .ok (.istore_n 3, 1) := by decide +kernel
theorem dJ7_fill_53178_5 : decode cJ7_fill_53178 5 = .ok (.iload_n 2, 1) := by decide +kernel
theorem dJ7_fill_53178_6 : decode cJ7_fill_53178 6 = .ok (.iload_n 3, 1) := by decide +kernel
theorem dJ7_fill_53178_7 : decode cJ7_fill_53178 7 = .ok (.if_icmp .ge 13, 3) := by decide +kernel
theorem dJ7_fill_53178_10 : decode cJ7_fill_53178 10 = .ok (.aload_n 0, 1) := by decide +kernel
theorem dJ7_fill_53178_11 : decode cJ7_fill_53178 11 = .ok (.iload_n 2, 1) := by decide +kernel
theorem dJ7_fill_53178_12 : decode cJ7_fill_53178 12 = .ok (.iload_n 1, 1) := by decide +kernel
theorem dJ7_fill_53178_13 : decode cJ7_fill_53178 13 = .ok (.iastore, 1) := by decide +kernel
theorem dJ7_fill_53178_14 : decode cJ7_fill_53178 14 = .ok (.iinc 2 1, 3) := by decide +kernel
theorem dJ7_fill_53178_17 : decode cJ7_fill_53178 17 = .ok (.goto (-12), 3) := by decide +kernel
theorem dJ7_fill_53178_20 : decode cJ7_fill_53178 20 = .ok (.return_, 1) := by decide +kernel
end
section
theorem dL_law_0 : decode cL_law 0 = .ok (.new 7, 3) := by decide +kernel
theorem dL_law_3 : decode cL_law 3 = .ok (.dup, 1) := by decide +kernel
theorem dL_law_4 : decode cL_law 4 = .ok (.invokespecial 9, 3) := by decide +kernel
theorem dL_law_7 : decode cL_law 7 = .ok (.astore_n 1, 1) := by decide +kernel
theorem dL_law_8 : decode cL_law 8 = .ok (.new 10, 3) := by decide +kernel
theorem dL_law_11 : decode cL_law 11 = .ok (.dup, 1) := by decide +kernel
theorem dL_law_12 : decode cL_law 12 = .ok (.invokespecial 12, 3) := by decide +kernel
theorem dL_law_15 : decode cL_law 15 = .ok (.astore_n 2, 1) := by decide +kernel
theorem dL_law_16 : decode cL_law 16 = .ok (.iconst 0, 1) := by decide +kernel
theorem dL_law_17 : decode cL_law 17 = .ok (.istore_n 3, 1) := by decide +kernel
theorem dL_law_18 : decode cL_law 18 = .ok (.iload_n 3, 1) := by decide +kernel
theorem dL_law_19 : decode cL_law 19 = .ok (.aload_n 0, 1) := by decide +kernel
theorem dL_law_20 : decode cL_law 20 = .ok (.arraylength, 1) := by decide +kernel
theorem dL_law_21 : decode cL_law 21 = .ok (.bipush 6, 2) := by decide +kernel
theorem dL_law_23 : decode cL_law 23 = .ok (.isub, 1) := by decide +kernel
theorem dL_law_24 : decode cL_law 24 = .ok (.if_icmp .gt 906, 3) := by decide +kernel
theorem dL_law_27 : decode cL_law 27 = .ok (.aload_n 0, 1) := by decide +kernel
theorem dL_law_28 : decode cL_law 28 = .ok (.iload_n 3, 1) := by decide +kernel
theorem dL_law_29 : decode cL_law 29 = .ok (.iaload, 1) := by decide +kernel
theorem dL_law_30 : decode cL_law 30 = .ok (.bipush 31, 2) := by decide +kernel
theorem dL_law_32 : decode cL_law 32 = .ok (.iand, 1) := by decide +kernel
theorem dL_law_33 : decode cL_law 33 = .ok (.tableswitch 891 0 27 #[127, 160, 183, 226, 289, 332, 345, 358, 391, 434, 477, 490, 503, 546, 599, 622, 635, 668, 681, 714, 727, 750, 763, 786, 809, 822, 855, 868], 127) := by decide +kernel
theorem dL_law_160 : decode cL_law 160 = .ok (.aload_n 1, 1) := by decide +kernel
theorem dL_law_161 : decode cL_law 161 = .ok (.aload_n 0, 1) := by decide +kernel
theorem dL_law_162 : decode cL_law 162 = .ok (.iload_n 3, 1) := by decide +kernel
theorem dL_law_163 : decode cL_law 163 = .ok (.iconst 1, 1) := by decide +kernel
theorem dL_law_164 : decode cL_law 164 = .ok (.iadd, 1) := by decide +kernel
theorem dL_law_165 : decode cL_law 165 = .ok (.iaload, 1) := by decide +kernel
theorem dL_law_166 : decode cL_law 166 = .ok (.aload_n 0, 1) := by decide +kernel
theorem dL_law_167 : decode cL_law 167 = .ok (.iload_n 3, 1) := by decide +kernel
theorem dL_law_168 : decode cL_law 168 = .ok (.iconst 2, 1) := by decide +kernel
theorem dL_law_169 : decode cL_law 169 = .ok (.iadd, 1) := by decide +kernel
theorem dL_law_170 : decode cL_law 170 = .ok (.iaload, 1) := by decide +kernel
theorem dL_law_171 : decode cL_law 171 = .ok (.invokevirtual 13, 3) := by decide +kernel
theorem dL_law_174 : decode cL_law 174 = .ok (.aload_n 2, 1) := by decide +kernel
theorem dL_law_175 : decode cL_law 175 = .ok (.aload_n 0, 1) := by decide +kernel
theorem dL_law_176 : decode cL_law 176 = .ok (.iload_n 3, 1) := by decide +kernel
theorem dL_law_177 : decode cL_law 177 = .ok (.iconst 1, 1) := by decide +kernel
theorem dL_law_178 : decode cL_law 178 = .ok (.iadd, 1) := by decide +kernel
theorem dL_law_179 : decode cL_law 179 = .ok (.iaload, 1) := by decide +kernel
theorem dL_law_180 : decode cL_law 180 = .ok (.aload_n 0, 1) := by decide +kernel
theorem dL_law_181 : decode cL_law 181 = .ok (.iload_n 3, 1) := by decide +kernel
theorem dL_law_182 : decode cL_law 182 = .ok (.iconst 2, 1) := by decide +kernel
theorem dL_law_183 : decode cL_law 183 = .ok (.iadd, 1) := by decide +kernel
theorem dL_law_184 : decode cL_law 184 = .ok (.iaload, 1) := by decide +kernel
theorem dL_law_185 : decode cL_law 185 = .ok (.invokevirtual 17, 3) := by decide +kernel
theorem dL_law_188 : decode cL_law 188 = .ok (.if_icmp .eq 736, 3) := by decide +kernel
theorem dL_law_191 : decode cL_law 191 = .ok (.iconst 0, 1) := by decide +kernel
theorem dL_law_192 : decode cL_law 192 = .ok (.ireturn, 1) := by decide +kernel
theorem dL_law_193 : decode cL_law 193 = .ok (.aload_n 1, 1) := by decide +kernel
theorem dL_law_194 : decode cL_law 194 = .ok (.aload_n 0, 1) := by decide +kernel
theorem dL_law_195 : decode cL_law 195 = .ok (.iload_n 3, 1) := by decide +kernel
theorem dL_law_196 : decode cL_law 196 = .ok (.iconst 1, 1) := by decide +kernel
theorem dL_law_197 : decode cL_law 197 = .ok (.iadd, 1) := by decide +kernel
theorem dL_law_198 : decode cL_law 198 = .ok (.iaload, 1) := by decide +kernel
theorem dL_law_199 : decode cL_law 199 = .ok (.invokevirtual 18, 3) := by decide +kernel
theorem dL_law_202 : decode cL_law 202 = .ok (.aload_n 2, 1) := by decide +kernel
theorem dL_law_203 : decode cL_law 203 = .ok (.aload_n 0, 1) := by decide +kernel
theorem dL_law_204 : decode cL_law 204 = .ok (.iload_n 3, 1) := by decide +kernel
theorem dL_law_205 : decode cL_law 205 = .ok (.iconst 1, 1) := by decide +kernel
theorem dL_law_206 : decode cL_law 206 = .ok (.iadd, 1) := by decide +kernel
theorem dL_law_207 : decode cL_law 207 = .ok (.iaload, 1) := by decide +kernel
theorem dL_law_208 : decode cL_law 208 = .ok (.invokevirtual 22, 3) := by decide +kernel
theorem dL_law_211 : decode cL_law 211 = .ok (.if_icmp .eq 713, 3) := by decide +kernel
theorem dL_law_214 : decode cL_law 214 = .ok (.iconst 0, 1) := by decide +kernel
theorem dL_law_215 : decode cL_law 215 = .ok (.ireturn, 1) := by decide +kernel
theorem dL_law_216 : decode cL_law 216 = .ok (.aload_n 1, 1) := by decide +kernel
theorem dL_law_217 : decode cL_law 217 = .ok (.aload_n 0, 1) := by decide +kernel
theorem dL_law_218 : decode cL_law 218 = .ok (.iload_n 3, 1) := by decide +kernel
theorem dL_law_219 : decode cL_law 219 = .ok (.iconst 1, 1) := by decide +kernel
theorem dL_law_220 : decode cL_law 220 = .ok (.iadd, 1) := by decide +kernel
theorem dL_law_221 : decode cL_law 221 = .ok (.iaload, 1) := by decide +kernel
theorem dL_law_222 : decode cL_law 222 = .ok (.aload_n 0, 1) := by decide +kernel
theorem dL_law_223 : decode cL_law 223 = .ok (.iload_n 3, 1) := by decide +kernel
theorem dL_law_224 : decode cL_law 224 = .ok (.iconst 2, 1) := by decide +kernel
theorem dL_law_225 : decode cL_law 225 = .ok (.iadd, 1) := by decide +kernel
theorem dL_law_226 : decode cL_law 226 = .ok (.iaload, 1) := by decide +kernel
theorem dL_law_227 : decode cL_law 227 = .ok (.aload_n 0, 1) := by decide +kernel
theorem dL_law_228 : decode cL_law 228 = .ok (.iload_n 3, 1) := by decide +kernel
theorem dL_law_229 : decode cL_law 229 = .ok (.iconst 3, 1) := by decide +kernel
theorem dL_law_230 : decode cL_law 230 = .ok (.iadd, 1) := by decide +kernel
theorem dL_law_231 : decode cL_law 231 = .ok (.iaload, 1) := by decide +kernel
theorem dL_law_232 : decode cL_law 232 = .ok (.invokevirtual 23, 3) := by decide +kernel
theorem dL_law_235 : decode cL_law 235 = .ok (.aload_n 2, 1) := by decide +kernel
theorem dL_law_236 : decode cL_law 236 = .ok (.aload_n 0, 1) := by decide +kernel
theorem dL_law_237 : decode cL_law 237 = .ok (.iload_n 3, 1) := by decide +kernel
theorem dL_law_238 : decode cL_law 238 = .ok (.iconst 1, 1) := by decide +kernel
theorem dL_law_239 : decode cL_law 239 = .ok (.iadd, 1) := by decide +kernel
theorem dL_law_240 : decode cL_law 240 = .ok (.iaload, 1) := by decide +kernel
theorem dL_law_241 : decode cL_law 241 = .ok (.aload_n 0, 1) := by decide +kernel
theorem dL_law_242 : decode cL_law 242 = .ok (.iload_n 3, 1) := by decide +kernel
theorem dL_law_243 : decode cL_law 243 = .ok (.iconst 2, 1) := by decide +kernel
theorem dL_law_244 : decode cL_law 244 = .ok (.iadd, 1) := by decide +kernel
theorem dL_law_245 : decode cL_law 245 = .ok (.iaload, 1) := by decide +kernel
theorem dL_law_246 : decode cL_law 246 = .ok (.aload_n 0, 1) := by decide +kernel
theorem dL_law_247 : decode cL_law 247 = .ok (.iload_n 3, 1) := by decide +kernel
theorem dL_law_248 : decode cL_law 248 = .ok (.iconst 3, 1) := by decide +kernel
theorem dL_law_249 : decode cL_law 249 = .ok (.iadd, 1) := by decide +kernel
theorem dL_law_250 : decode cL_law 250 = .ok (.iaload, 1) := by decide +kernel
theorem dL_law_251 : decode cL_law 251 = .ok (.invokevirtual 27, 3) := by decide +kernel
theorem dL_law_254 : decode cL_law 254 = .ok (.if_icmp .eq 670, 3) := by decide +kernel
theorem dL_law_257 : decode cL_law 257 = .ok (.iconst 0, 1) := by decide +kernel
theorem dL_law_258 : decode cL_law 258 = .ok (.ireturn, 1) := by decide +kernel
theorem dL_law_259 : decode cL_law 259 = .ok (.aload_n 1, 1) := by decide +kernel
theorem dL_law_260 : decode cL_law 260 = .ok (.aload_n 0, 1) := by decide +kernel
theorem dL_law_261 : decode cL_law 261 = .ok (.iload_n 3, 1) := by decide +kernel
theorem dL_law_262 : decode cL_law 262 = .ok (.iconst 1, 1) := by decide +kernel
theorem dL_law_263 : decode cL_law 263 = .ok (.iadd, 1) := by decide +kernel
theorem dL_law_264 : decode cL_law 264 = .ok (.iaload, 1) := by decide +kernel
theorem dL_law_265 : decode cL_law 265 = .ok (.aload_n 0, 1) := by decide +kernel
theorem dL_law_266 : decode cL_law 266 = .ok (.iload_n 3, 1) := by decide +kernel
theorem dL_law_267 : decode cL_law 267 = .ok (.iconst 2, 1) := by decide +kernel
theorem dL_law_268 : decode cL_law 268 = .ok (.iadd, 1) := by decide +kernel
theorem dL_law_269 : decode cL_law 269 = .ok (.iaload, 1) := by decide +kernel
theorem dL_law_270 : decode cL_law 270 = .ok (.aload_n 0, 1) := by decide +kernel
theorem dL_law_271 : decode cL_law 271 = .ok (.iload_n 3, 1) := by decide +kernel
theorem dL_law_272 : decode cL_law 272 = .ok (.iconst 3, 1) := by decide +kernel
theorem dL_law_273 : decode cL_law 273 = .ok (.iadd, 1) := by decide +kernel
theorem dL_law_274 : decode cL_law 274 = .ok (.iaload, 1) := by decide +kernel
theorem dL_law_275 : decode cL_law 275 = .ok (.aload_n 0, 1) := by decide +kernel
theorem dL_law_276 : decode cL_law 276 = .ok (.iload_n 3, 1) := by decide +kernel
theorem dL_law_277 : decode cL_law 277 = .ok (.iconst 4, 1) := by decide +kernel
theorem dL_law_278 : decode cL_law 278 = .ok (.iadd, 1) := by decide +kernel
theorem dL_law_279 : decode cL_law 279 = .ok (.iaload, 1) := by decide +kernel
theorem dL_law_280 : decode cL_law 280 = .ok (.aload_n 0, 1) := by decide +kernel
theorem dL_law_281 : decode cL_law 281 = .ok (.iload_n 3, 1) := by decide +kernel
theorem dL_law_282 : decode cL_law 282 = .ok (.iconst 5, 1) := by decide +kernel
theorem dL_law_283 : decode cL_law 283 = .ok (.iadd, 1) := by decide +kernel
theorem dL_law_284 : decode cL_law 284 = .ok (.iaload, 1) := by decide +kernel
theorem dL_law_285 : decode cL_law 285 = .ok (.invokevirtual 28, 3) := by decide +kernel
theorem dL_law_288 : decode cL_law 288 = .ok (.aload_n 2, 1) := by decide +kernel
theorem dL_law_289 : decode cL_law 289 = .ok (.aload_n 0, 1) := by decide +kernel
theorem dL_law_290 : decode cL_law 290 = .ok (.iload_n 3, 1) := by decide +kernel
theorem dL_law_291 : decode cL_law 291 = .ok (.iconst 1, 1) := by decide +kernel
theorem dL_law_292 : decode cL_law 292 = .ok (.iadd, 1) := by decide +kernel
theorem dL_law_293 : decode cL_law 293 = .ok (.iaload, 1) := by decide +kernel
theorem dL_law_294 : decode cL_law 294 = .ok (.aload_n 0, 1) := by decide +kernel
theorem dL_law_295 : decode cL_law 295 = .ok (.iload_n 3, 1) := by decide +kernel
theorem dL_law_296 : decode cL_law 296 = .ok (.iconst 2, 1) := by decide +kernel
theorem dL_law_297 : decode cL_law 297 = .ok (.iadd, 1) := by decide +kernel
theorem dL_law_298 : decode cL_law 298 = .ok (.iaload, 1) := by decide +kernel
theorem dL_law_299 : decode cL_law 299 = .ok (.aload_n 0, 1) := by decide +kernel
theorem dL_law_300 : decode cL_law 300 = .ok (.iload_n 3, 1) := by decide +kernel
theorem dL_law_301 : decode cL_law 301 = .ok (.iconst 3, 1) := by decide +kernel
theorem dL_law_302 : decode cL_law 302 = .ok (.iadd, 1) := by decide +kernel
theorem dL_law_303 : decode cL_law 303 = .ok (.iaload, 1) := by decide +kernel
theorem dL_law_304 : decode cL_law 304 = .ok (.aload_n 0, 1) := by decide +kernel
theorem dL_law_305 : decode cL_law 305 = .ok (.iload_n 3, 1) := by decide +kernel
theorem dL_law_306 : decode cL_law 306 = .ok (.iconst 4, 1) := by decide +kernel
theorem dL_law_307 : decode cL_law 307 = .ok (.iadd, 1) := by decide +kernel
theorem dL_law_308 : decode cL_law 308 = .ok (.iaload, 1) := by decide +kernel
theorem dL_law_309 : decode cL_law 309 = .ok (.aload_n 0, 1) := by decide +kernel
theorem dL_law_310 : decode cL_law 310 = .ok (.iload_n 3, 1) := by decide +kernel
theorem dL_law_311 : decode cL_law 311 = .ok (.iconst 5, 1) := by decide +kernel
theorem dL_law_312 : decode cL_law 312 = .ok (.iadd, 1) := by decide +kernel
theorem dL_law_313 : decode cL_law 313 = .ok (.iaload, 1) := by decide +kernel
theorem dL_law_314 : decode cL_law 314 = .ok (.invokevirtual 32, 3) := by decide +kernel
theorem dL_law_317 : decode cL_law 317 = .ok (.if_icmp .eq 607, 3) := by decide +kernel
theorem dL_law_320 : decode cL_law 320 = .ok (.iconst 0, 1) := by decide +kernel
theorem dL_law_321 : decode cL_law 321 = .ok (.ireturn, 1) := by decide +kernel
theorem dL_law_322 : decode cL_law 322 = .ok (.aload_n 1, 1) := by decide +kernel
theorem dL_law_323 : decode cL_law 323 = .ok (.aload_n 0, 1) := by decide +kernel
theorem dL_law_324 : decode cL_law 324 = .ok (.iload_n 3, 1) := by decide +kernel
theorem dL_law_325 : decode cL_law 325 = .ok (.iconst 1, 1) := by decide +kernel
theorem dL_law_326 : decode cL_law 326 = .ok (.iadd, 1) := by decide +kernel
theorem dL_law_327 : decode cL_law 327 = .ok (.iaload, 1) := by decide +kernel
theorem dL_law_328 : decode cL_law 328 = .ok (.aload_n 0, 1) := by decide +kernel
theorem dL_law_329 : decode cL_law 329 = .ok (.iload_n 3, 1) := by decide +kernel
theorem dL_law_330 : decode cL_law 330 = .ok (.iconst 2, 1) := by decide +kernel
theorem dL_law_331 : decode cL_law 331 = .ok (.iadd, 1) := by decide +kernel
theorem dL_law_332 : decode cL_law 332 = .ok (.iaload, 1) := by decide +kernel
theorem dL_law_333 : decode cL_law 333 = .ok (.aload_n 0, 1) := by decide +kernel
theorem dL_law_334 : decode cL_law 334 = .ok (.iload_n 3, 1) := by decide +kernel
theorem dL_law_335 : decode cL_law 335 = .ok (.iconst 3, 1) := by decide +kernel
theorem dL_law_336 : decode cL_law 336 = .ok (.iadd, 1) := by decide +kernel
theorem dL_law_337 : decode cL_law 337 = .ok (.iaload, 1) := by decide +kernel
theorem dL_law_338 : decode cL_law 338 = .ok (.invokevirtual 33, 3) := by decide +kernel
theorem dL_law_341 : decode cL_law 341 = .ok (.aload_n 2, 1) := by decide +kernel
theorem dL_law_342 : decode cL_law 342 = .ok (.aload_n 0, 1) := by decide +kernel
theorem dL_law_343 : decode cL_law 343 = .ok (.iload_n 3, 1) := by decide +kernel
theorem dL_law_344 : decode cL_law 344 = .ok (.iconst 1, 1) := by decide +kernel
theorem dL_law_345 : decode cL_law 345 = .ok (.iadd, 1) := by decide +kernel
theorem dL_law_346 : decode cL_law 346 = .ok (.iaload, 1) := by decide +kernel
theorem dL_law_347 : decode cL_law 347 = .ok (.aload_n 0, 1) := by decide +kernel
theorem dL_law_348 : decode cL_law 348 = .ok (.iload_n 3, 1) := by decide +kernel
theorem dL_law_349 : decode cL_law 349 = .ok (.iconst 2, 1) := by decide +kernel
theorem dL_law_350 : decode cL_law 350 = .ok (.iadd, 1) := by decide +kernel
theorem dL_law_351 : decode cL_law 351 = .ok (.iaload, 1) := by decide +kernel
theorem dL_law_352 : decode cL_law 352 = .ok (.aload_n 0, 1) := by decide +kernel
theorem dL_law_353 : decode cL_law 353 = .ok (.iload_n 3, 1) := by decide +kernel
theorem dL_law_354 : decode cL_law 354 = .ok (.iconst 3, 1) := by decide +kernel
theorem dL_law_355 : decode cL_law 355 = .ok (.iadd, 1) := by decide +kernel
theorem dL_law_356 : decode cL_law 356 = .ok (.iaload, 1) := by decide +kernel
theorem dL_law_357 : decode cL_law 357 = .ok (.invokevirtual 36, 3) := by decide +kernel
theorem dL_law_360 : decode cL_law 360 = .ok (.if_icmp .eq 564, 3) := by decide +kernel
theorem dL_law_363 : decode cL_law 363 = .ok (.iconst 0, 1) := by decide +kernel
theorem dL_law_364 : decode cL_law 364 = .ok (.ireturn, 1) := by decide +kernel
theorem dL_law_365 : decode cL_law 365 = .ok (.aload_n 1, 1) := by decide +kernel
theorem dL_law_366 : decode cL_law 366 = .ok (.invokevirtual 37, 3) := by decide +kernel
theorem dL_law_369 : decode cL_law 369 = .ok (.aload_n 2, 1) := by decide +kernel
theorem dL_law_370 : decode cL_law 370 = .ok (.invokevirtual 41, 3) := by decide +kernel
theorem dL_law_373 : decode cL_law 373 = .ok (.if_icmp .eq 551, 3) := by decide +kernel
theorem dL_law_376 : decode cL_law 376 = .ok (.iconst 0, 1) := by decide +kernel
theorem dL_law_377 : decode cL_law 377 = .ok (.ireturn, 1) := by decide +kernel
theorem dL_law_378 : decode cL_law 378 = .ok (.aload_n 1, 1) := by decide +kernel
theorem dL_law_379 : decode cL_law 379 = .ok (.invokevirtual 42, 3) := by decide +kernel
theorem dL_law_382 : decode cL_law 382 = .ok (.aload_n 2, 1) := by decide +kernel
theorem dL_law_383 : decode cL_law 383 = .ok (.invokevirtual 45, 3) := by decide +kernel
theorem dL_law_386 : decode cL_law 386 = .ok (.if_icmp .eq 538, 3) := by decide +kernel
theorem dL_law_389 : decode cL_law 389 = .ok (.iconst 0, 1) := by decide +kernel
theorem dL_law_390 : decode cL_law 390 = .ok (.ireturn, 1) := by decide +kernel
theorem dL_law_391 : decode cL_law 391 = .ok (.aload_n 1, 1) := by decide +kernel
theorem dL_law_392 : decode cL_law 392 = .ok (.aload_n 0, 1) := by decide +kernel
theorem dL_law_393 : decode cL_law 393 = .ok (.iload_n 3, 1) := by decide +kernel
theorem dL_law_394 : decode cL_law 394 = .ok (.iconst 1, 1) := by decide +kernel
theorem dL_law_395 : decode cL_law 395 = .ok (.iadd, 1) := by decide +kernel
theorem dL_law_396 : decode cL_law 396 = .ok (.iaload, 1) := by decide +kernel
theorem dL_law_397 : decode cL_law 397 = .ok (.aload_n 0, 1) := by decide +kernel
theorem dL_law_398 : decode cL_law 398 = .ok (.iload_n 3, 1) := by decide +kernel
theorem dL_law_399 : decode cL_law 399 = .ok (.iconst 2, 1) := by decide +kernel
theorem dL_law_400 : decode cL_law 400 = .ok (.iadd, 1) := by decide +kernel
theorem dL_law_401 : decode cL_law 401 = .ok (.iaload, 1) := by decide +kernel
theorem dL_law_402 : decode cL_law 402 = .ok (.invokevirtual 46, 3) := by decide +kernel
theorem dL_law_405 : decode cL_law 405 = .ok (.aload_n 2, 1) := by decide +kernel
theorem dL_law_406 : decode cL_law 406 = .ok (.aload_n 0, 1) := by decide +kernel
theorem dL_law_407 : decode cL_law 407 = .ok (.iload_n 3, 1) := by decide +kernel
theorem dL_law_408 : decode cL_law 408 = .ok (.iconst 1, 1) := by decide +kernel
theorem dL_law_409 : decode cL_law 409 = .ok (.iadd, 1) := by decide +kernel
theorem dL_law_410 : decode cL_law 410 = .ok (.iaload, 1) := by decide +kernel
theorem dL_law_411 : decode cL_law 411 = .ok (.aload_n 0, 1) := by decide +kernel
theorem dL_law_412 : decode cL_law 412 = .ok (.iload_n 3, 1) := by decide +kernel
theorem dL_law_413 : decode cL_law 413 = .ok (.iconst 2, 1) := by decide +kernel
theorem dL_law_414 : decode cL_law 414 = .ok (.iadd, 1) := by decide +kernel
theorem dL_law_415 : decode cL_law 415 = .ok (.iaload, 1) := by decide +kernel
theorem dL_law_416 : decode cL_law 416 = .ok (.invokevirtual 49, 3) := by decide +kernel
theorem dL_law_419 : decode cL_law 419 = .ok (.if_icmp .eq 505, 3) := by decide +kernel
theorem dL_law_422 : decode cL_law 422 = .ok (.iconst 0, 1) := by decide +kernel
theorem dL_law_423 : decode cL_law 423 = .ok (.ireturn, 1) := by decide +kernel
theorem dL_law_424 : decode cL_law 424 = .ok (.aload_n 1, 1) := by decide +kernel
theorem dL_law_425 : decode cL_law 425 = .ok (.aload_n 0, 1) := by decide +kernel
theorem dL_law_426 : decode cL_law 426 = .ok (.iload_n 3, 1) := by decide +kernel
theorem dL_law_427 : decode cL_law 427 = .ok (.iconst 1, 1) := by decide +kernel
theorem dL_law_428 : decode cL_law 428 = .ok (.iadd, 1) := by decide +kernel
theorem dL_law_429 : decode cL_law 429 = .ok (.iaload, 1) := by decide +kernel
theorem dL_law_430 : decode cL_law 430 = .ok (.aload_n 0, 1) := by decide +kernel
theorem dL_law_431 : decode cL_law 431 = .ok (.iload_n 3, 1) := by decide +kernel
theorem dL_law_432 : decode cL_law 432 = .ok (.iconst 2, 1) := by decide +kernel
theorem dL_law_433 : decode cL_law 433 = .ok (.iadd, 1) := by decide +kernel
theorem dL_law_434 : decode cL_law 434 = .ok (.iaload, 1) := by decide +kernel
theorem dL_law_435 : decode cL_law 435 = .ok (.aload_n 0, 1) := by decide +kernel
theorem dL_law_436 : decode cL_law 436 = .ok (.iload_n 3, 1) := by decide +kernel
theorem dL_law_437 : decode cL_law 437 = .ok (.iconst 3, 1) := by decide +kernel
theorem dL_law_438 : decode cL_law 438 = .ok (.iadd, 1) := by decide +kernel
theorem dL_law_439 : decode cL_law 439 = .ok (.iaload, 1) := by decide +kernel
theorem dL_law_440 : decode cL_law 440 = .ok (.invokevirtual 50, 3) := by decide +kernel
theorem dL_law_443 : decode cL_law 443 = .ok (.aload_n 2, 1) := by decide +kernel
theorem dL_law_444 : decode cL_law 444 = .ok (.aload_n 0, 1) := by decide +kernel
theorem dL_law_445 : decode cL_law 445 = .ok (.iload_n 3, 1) := by decide +kernel
theorem dL_law_446 : decode cL_law 446 = .ok (.iconst 1, 1) := by decide +kernel
theorem dL_law_447 : decode cL_law 447 = .ok (.iadd, 1) := by decide +kernel
theorem dL_law_448 : decode cL_law 448 = .ok (.iaload, 1) := by decide +kernel
theorem dL_law_449 : decode cL_law 449 = .ok (.aload_n 0, 1) := by decide +kernel
theorem dL_law_450 : decode cL_law 450 = .ok (.iload_n 3, 1) := by decide +kernel
theorem dL_law_451 : decode cL_law 451 = .ok (.iconst 2, 1) := by decide +kernel
theorem dL_law_452 : decode cL_law 452 = .ok (.iadd, 1) := by decide +kernel
theorem dL_law_453 : decode cL_law 453 = .ok (.iaload, 1) := by decide +kernel
theorem dL_law_454 : decode cL_law 454 = .ok (.aload_n 0, 1) := by decide +kernel
theorem dL_law_455 : decode cL_law 455 = .ok (.iload_n 3, 1) := by decide +kernel
theorem dL_law_456 : decode cL_law 456 = .ok (.iconst 3, 1) := by decide +kernel
theorem dL_law_457 : decode cL_law 457 = .ok (.iadd, 1) := by decide +kernel
theorem dL_law_458 : decode cL_law 458 = .ok (.iaload, 1) := by decide +kernel
theorem dL_law_459 : decode cL_law 459 = .ok (.invokevirtual 53, 3) := by decide +kernel
theorem dL_law_462 : decode cL_law 462 = .ok (.if_icmp .eq 462, 3) := by decide +kernel
theorem dL_law_465 : decode cL_law 465 = .ok (.iconst 0, 1) := by decide +kernel
theorem dL_law_466 : decode cL_law 466 = .ok (.ireturn, 1) := by decide +kernel
theorem dL_law_467 : decode cL_law 467 = .ok (.aload_n 1, 1) := by decide +kernel
theorem dL_law_468 : decode cL_law 468 = .ok (.aload_n 0, 1) := by decide +kernel
theorem dL_law_469 : decode cL_law 469 = .ok (.iload_n 3, 1) := by decide +kernel
theorem dL_law_470 : decode cL_law 470 = .ok (.iconst 1, 1) := by decide +kernel
theorem dL_law_471 : decode cL_law 471 = .ok (.iadd, 1) := by decide +kernel
theorem dL_law_472 : decode cL_law 472 = .ok (.iaload, 1) := by decide +kernel
theorem dL_law_473 : decode cL_law 473 = .ok (.aload_n 0, 1) := by decide +kernel
theorem dL_law_474 : decode cL_law 474 = .ok (.iload_n 3, 1) := by decide +kernel
theorem dL_law_475 : decode cL_law 475 = .ok (.iconst 2, 1) := by decide +kernel
theorem dL_law_476 : decode cL_law 476 = .ok (.iadd, 1) := by decide +kernel
theorem dL_law_477 : decode cL_law 477 = .ok (.iaload, 1) := by decide +kernel
theorem dL_law_478 : decode cL_law 478 = .ok (.aload_n 0, 1) := by decide +kernel
theorem dL_law_479 : decode cL_law 479 = .ok (.iload_n 3, 1) := by decide +kernel
theorem dL_law_480 : decode cL_law 480 = .ok (.iconst 3, 1) := by decide +kernel
theorem dL_law_481 : decode cL_law 481 = .ok (.iadd, 1) := by decide +kernel
theorem dL_law_482 : decode cL_law 482 = .ok (.iaload, 1) := by decide +kernel
theorem dL_law_483 : decode cL_law 483 = .ok (.invokevirtual 54, 3) := by decide +kernel
theorem dL_law_486 : decode cL_law 486 = .ok (.aload_n 2, 1) := by decide +kernel
theorem dL_law_487 : decode cL_law 487 = .ok (.aload_n 0, 1) := by decide +kernel
theorem dL_law_488 : decode cL_law 488 = .ok (.iload_n 3, 1) := by decide +kernel
theorem dL_law_489 : decode cL_law 489 = .ok (.iconst 1, 1) := by decide +kernel
theorem dL_law_490 : decode cL_law 490 = .ok (.iadd, 1) := by decide +kernel
theorem dL_law_491 : decode cL_law 491 = .ok (.iaload, 1) := by decide +kernel
theorem dL_law_492 : decode cL_law 492 = .ok (.aload_n 0, 1) := by decide +kernel
theorem dL_law_493 : decode cL_law 493 = .ok (.iload_n 3, 1) := by decide +kernel
theorem dL_law_494 : decode cL_law 494 = .ok (.iconst 2, 1) := by decide +kernel
theorem dL_law_495 : decode cL_law 495 = .ok (.iadd, 1) := by decide +kernel
theorem dL_law_496 : decode cL_law 496 = .ok (.iaload, 1) := by decide +kernel
theorem dL_law_497 : decode cL_law 497 = .ok (.aload_n 0, 1) := by decide +kernel
theorem dL_law_498 : decode cL_law 498 = .ok (.iload_n 3, 1) := by decide +kernel
theorem dL_law_499 : decode cL_law 499 = .ok (.iconst 3, 1) := by decide +kernel
theorem dL_law_500 : decode cL_law 500 = .ok (.iadd, 1) := by decide +kernel
theorem dL_law_501 : decode cL_law 501 = .ok (.iaload, 1) := by decide +kernel
theorem dL_law_502 : decode cL_law 502 = .ok (.invokevirtual 57, 3) := by decide +kernel
theorem dL_law_505 : decode cL_law 505 = .ok (.if_icmp .eq 419, 3) := by decide +kernel
theorem dL_law_508 : decode cL_law 508 = .ok (.iconst 0, 1) := by decide +kernel
theorem dL_law_509 : decode cL_law 509 = .ok (.ireturn, 1) := by decide +kernel
theorem dL_law_510 : decode cL_law 510 = .ok (.aload_n 1, 1) := by decide +kernel
theorem dL_law_511 : decode cL_law 511 = .ok (.invokevirtual 58, 3) := by decide +kernel
theorem dL_law_514 : decode cL_law 514 = .ok (.aload_n 2, 1) := by decide +kernel
theorem dL_law_515 : decode cL_law 515 = .ok (.invokevirtual 61, 3) := by decide +kernel
theorem dL_law_518 : decode cL_law 518 = .ok (.if_icmp .eq 406, 3) := by decide +kernel
theorem dL_law_521 : decode cL_law 521 = .ok (.iconst 0, 1) := by decide +kernel
theorem dL_law_522 : decode cL_law 522 = .ok (.ireturn, 1) := by decide +kernel
theorem dL_law_523 : decode cL_law 523 = .ok (.aload_n 1, 1) := by decide +kernel
theorem dL_law_524 : decode cL_law 524 = .ok (.invokevirtual 62, 3) := by decide +kernel
theorem dL_law_527 : decode cL_law 527 = .ok (.aload_n 2, 1) := by decide +kernel
theorem dL_law_528 : decode cL_law 528 = .ok (.invokevirtual 65, 3) := by decide +kernel
theorem dL_law_531 : decode cL_law 531 = .ok (.if_icmp .eq 393, 3) := by decide +kernel
theorem dL_law_534 : decode cL_law 534 = .ok (.iconst 0, 1) := by decide +kernel
theorem dL_law_535 : decode cL_law 535 = .ok (.ireturn, 1) := by decide +kernel
theorem dL_law_536 : decode cL_law 536 = .ok (.aload_n 1, 1) := by decide +kernel
theorem dL_law_537 : decode cL_law 537 = .ok (.aload_n 0, 1) := by decide +kernel
theorem dL_law_538 : decode cL_law 538 = .ok (.iload_n 3, 1) := by decide +kernel
theorem dL_law_539 : decode cL_law 539 = .ok (.iconst 1, 1) := by decide +kernel
theorem dL_law_540 : decode cL_law 540 = .ok (.iadd, 1) := by decide +kernel
theorem dL_law_541 : decode cL_law 541 = .ok (.iaload, 1) := by decide +kernel
theorem dL_law_542 : decode cL_law 542 = .ok (.aload_n 0, 1) := by decide +kernel
theorem dL_law_543 : decode cL_law 543 = .ok (.iload_n 3, 1) := by decide +kernel
theorem dL_law_544 : decode cL_law 544 = .ok (.iconst 2, 1) := by decide +kernel
theorem dL_law_545 : decode cL_law 545 = .ok (.iadd, 1) := by decide +kernel
theorem dL_law_546 : decode cL_law 546 = .ok (.iaload, 1) := by decide +kernel
theorem dL_law_547 : decode cL_law 547 = .ok (.aload_n 0, 1) := by decide +kernel
theorem dL_law_548 : decode cL_law 548 = .ok (.iload_n 3, 1) := by decide +kernel
theorem dL_law_549 : decode cL_law 549 = .ok (.iconst 3, 1) := by decide +kernel
theorem dL_law_550 : decode cL_law 550 = .ok (.iadd, 1) := by decide +kernel
theorem dL_law_551 : decode cL_law 551 = .ok (.iaload, 1) := by decide +kernel
theorem dL_law_552 : decode cL_law 552 = .ok (.invokevirtual 66, 3) := by decide +kernel
theorem dL_law_555 : decode cL_law 555 = .ok (.aload_n 2, 1) := by decide +kernel
theorem dL_law_556 : decode cL_law 556 = .ok (.aload_n 0, 1) := by decide +kernel
theorem dL_law_557 : decode cL_law 557 = .ok (.iload_n 3, 1) := by decide +kernel
theorem dL_law_558 : decode cL_law 558 = .ok (.iconst 1, 1) := by decide +kernel
theorem dL_law_559 : decode cL_law 559 = .ok (.iadd, 1) := by decide +kernel
theorem dL_law_560 : decode cL_law 560 = .ok (.iaload, 1) := by decide +kernel
theorem dL_law_561 : decode cL_law 561 = .ok (.aload_n 0, 1) := by decide +kernel
theorem dL_law_562 : decode cL_law 562 = .ok (.iload_n 3, 1) := by decide +kernel
theorem dL_law_563 : decode cL_law 563 = .ok (.iconst 2, 1) := by decide +kernel
theorem dL_law_564 : decode cL_law 564 = .ok (.iadd, 1) := by decide +kernel
theorem dL_law_565 : decode cL_law 565 = .ok (.iaload, 1) := by decide +kernel
theorem dL_law_566 : decode cL_law 566 = .ok (.aload_n 0, 1) := by decide +kernel
theorem dL_law_567 : decode cL_law 567 = .ok (.iload_n 3, 1) := by decide +kernel
theorem dL_law_568 : decode cL_law 568 = .ok (.iconst 3, 1) := by decide +kernel
theorem dL_law_569 : decode cL_law 569 = .ok (.iadd, 1) := by decide +kernel
theorem dL_law_570 : decode cL_law 570 = .ok (.iaload, 1) := by decide +kernel
theorem dL_law_571 : decode cL_law 571 = .ok (.invokevirtual 69, 3) := by decide +kernel
theorem dL_law_574 : decode cL_law 574 = .ok (.if_icmp .eq 350, 3) := by decide +kernel
theorem dL_law_577 : decode cL_law 577 = .ok (.iconst 0, 1) := by decide +kernel
theorem dL_law_578 : decode cL_law 578 = .ok (.ireturn, 1) := by decide +kernel
theorem dL_law_579 : decode cL_law 579 = .ok (.aload_n 1, 1) := by decide +kernel
theorem dL_law_580 : decode cL_law 580 = .ok (.aload_n 0, 1) := by decide +kernel
theorem dL_law_581 : decode cL_law 581 = .ok (.iload_n 3, 1) := by decide +kernel
theorem dL_law_582 : decode cL_law 582 = .ok (.iconst 1, 1) := by decide +kernel
theorem dL_law_583 : decode cL_law 583 = .ok (.iadd, 1) := by decide +kernel
theorem dL_law_584 : decode cL_law 584 = .ok (.iaload, 1) := by decide +kernel
theorem dL_law_585 : decode cL_law 585 = .ok (.aload_n 0, 1) := by decide +kernel
theorem dL_law_586 : decode cL_law 586 = .ok (.iload_n 3, 1) := by decide +kernel
theorem dL_law_587 : decode cL_law 587 = .ok (.iconst 2, 1) := by decide +kernel
theorem dL_law_588 : decode cL_law 588 = .ok (.iadd, 1) := by decide +kernel
theorem dL_law_589 : decode cL_law 589 = .ok (.iaload, 1) := by decide +kernel
theorem dL_law_590 : decode cL_law 590 = .ok (.aload_n 0, 1) := by decide +kernel
theorem dL_law_591 : decode cL_law 591 = .ok (.iload_n 3, 1) := by decide +kernel
theorem dL_law_592 : decode cL_law 592 = .ok (.iconst 3, 1) := by decide +kernel
theorem dL_law_593 : decode cL_law 593 = .ok (.iadd, 1) := by decide +kernel
theorem dL_law_594 : decode cL_law 594 = .ok (.iaload, 1) := by decide +kernel
theorem dL_law_595 : decode cL_law 595 = .ok (.aload_n 0, 1) := by decide +kernel
theorem dL_law_596 : decode cL_law 596 = .ok (.iload_n 3, 1) := by decide +kernel
theorem dL_law_597 : decode cL_law 597 = .ok (.iconst 4, 1) := by decide +kernel
theorem dL_law_598 : decode cL_law 598 = .ok (.iadd, 1) := by decide +kernel
theorem dL_law_599 : decode cL_law 599 = .ok (.iaload, 1) := by decide +kernel
theorem dL_law_600 : decode cL_law 600 = .ok (.invokevirtual 70, 3) := by decide +kernel
theorem dL_law_603 : decode cL_law 603 = .ok (.aload_n 2, 1) := by decide +kernel
theorem dL_law_604 : decode cL_law 604 = .ok (.aload_n 0, 1) := by decide +kernel
theorem dL_law_605 : decode cL_law 605 = .ok (.iload_n 3, 1) := by decide +kernel
theorem dL_law_606 : decode cL_law 606 = .ok (.iconst 1, 1) := by decide +kernel
theorem dL_law_607 : decode cL_law 607 = .ok (.iadd, 1) := by decide +kernel
theorem dL_law_608 : decode cL_law 608 = .ok (.iaload, 1) := by decide +kernel
theorem dL_law_609 : decode cL_law 609 = .ok (.aload_n 0, 1) := by decide +kernel
theorem dL_law_610 : decode cL_law 610 = .ok (.iload_n 3, 1) := by decide +kernel
theorem dL_law_611 : decode cL_law 611 = .ok (.iconst 2, 1) := by decide +kernel
theorem dL_law_612 : decode cL_law 612 = .ok (.iadd, 1) := by decide +kernel
theorem dL_law_613 : decode cL_law 613 = .ok (.iaload, 1) := by decide +kernel
theorem dL_law_614 : decode cL_law 614 = .ok (.aload_n 0, 1) := by decide +kernel
theorem dL_law_615 : decode cL_law 615 = .ok (.iload_n 3, 1) := by decide +kernel
theorem dL_law_616 : decode cL_law 616 = .ok (.iconst 3, 1) := by decide +kernel
theorem dL_law_617 : decode cL_law 617 = .ok (.iadd, 1) := by decide +kernel
theorem dL_law_618 : decode cL_law 618 = .ok (.iaload, 1) := by decide +kernel
theorem dL_law_619 : decode cL_law 619 = .ok (.aload_n 0, 1) := by decide +kernel
theorem dL_law_620 : decode cL_law 620 = .ok (.iload_n 3, 1) := by decide +kernel
theorem dL_law_621 : decode cL_law 621 = .ok (.iconst 4, 1) := by decide +kernel
theorem dL_law_622 : decode cL_law 622 = .ok (.iadd, 1) := by decide +kernel
theorem dL_law_623 : decode cL_law 623 = .ok (.iaload, 1) := by decide +kernel
theorem dL_law_624 : decode cL_law 624 = .ok (.invokevirtual 74, 3) := by decide +kernel
theorem dL_law_627 : decode cL_law 627 = .ok (.if_icmp .eq 297, 3) := by decide +kernel
theorem dL_law_630 : decode cL_law 630 = .ok (.iconst 0, 1) := by decide +kernel
theorem dL_law_631 : decode cL_law 631 = .ok (.ireturn, 1) := by decide +kernel
theorem dL_law_632 : decode cL_law 632 = .ok (.aload_n 1, 1) := by decide +kernel
theorem dL_law_633 : decode cL_law 633 = .ok (.aload_n 0, 1) := by decide +kernel
theorem dL_law_634 : decode cL_law 634 = .ok (.iload_n 3, 1) := by decide +kernel
theorem dL_law_635 : decode cL_law 635 = .ok (.iconst 1, 1) := by decide +kernel
theorem dL_law_636 : decode cL_law 636 = .ok (.iadd, 1) := by decide +kernel
theorem dL_law_637 : decode cL_law 637 = .ok (.iaload, 1) := by decide +kernel
theorem dL_law_638 : decode cL_law 638 = .ok (.invokevirtual 75, 3) := by decide +kernel
theorem dL_law_641 : decode cL_law 641 = .ok (.aload_n 2, 1) := by decide +kernel
theorem dL_law_642 : decode cL_law 642 = .ok (.aload_n 0, 1) := by decide +kernel
theorem dL_law_643 : decode cL_law 643 = .ok (.iload_n 3, 1) := by decide +kernel
theorem dL_law_644 : decode cL_law 644 = .ok (.iconst 1, 1) := by decide +kernel
theorem dL_law_645 : decode cL_law 645 = .ok (.iadd, 1) := by decide +kernel
theorem dL_law_646 : decode cL_law 646 = .ok (.iaload, 1) := by decide +kernel
theorem dL_law_647 : decode cL_law 647 = .ok (.invokevirtual 78, 3) := by decide +kernel
theorem dL_law_650 : decode cL_law 650 = .ok (.if_icmp .eq 274, 3) := by decide +kernel
theorem dL_law_653 : decode cL_law 653 = .ok (.iconst 0, 1) := by decide +kernel
theorem dL_law_654 : decode cL_law 654 = .ok (.ireturn, 1) := by decide +kernel
theorem dL_law_655 : decode cL_law 655 = .ok (.aload_n 1, 1) := by decide +kernel
theorem dL_law_656 : decode cL_law 656 = .ok (.invokevirtual 79, 3) := by decide +kernel
theorem dL_law_659 : decode cL_law 659 = .ok (.aload_n 2, 1) := by decide +kernel
theorem dL_law_660 : decode cL_law 660 = .ok (.invokevirtual 82, 3) := by decide +kernel
theorem dL_law_663 : decode cL_law 663 = .ok (.if_icmp .eq 261, 3) := by decide +kernel
theorem dL_law_666 : decode cL_law 666 = .ok (.iconst 0, 1) := by decide +kernel
theorem dL_law_667 : decode cL_law 667 = .ok (.ireturn, 1) := by decide +kernel
theorem dL_law_668 : decode cL_law 668 = .ok (.aload_n 1, 1) := by decide +kernel
theorem dL_law_669 : decode cL_law 669 = .ok (.aload_n 0, 1) := by decide +kernel
theorem dL_law_670 : decode cL_law 670 = .ok (.iload_n 3, 1) := by decide +kernel
theorem dL_law_671 : decode cL_law 671 = .ok (.iconst 1, 1) := by decide +kernel
theorem dL_law_672 : decode cL_law 672 = .ok (.iadd, 1) := by decide +kernel
theorem dL_law_673 : decode cL_law 673 = .ok (.iaload, 1) := by decide +kernel
theorem dL_law_674 : decode cL_law 674 = .ok (.aload_n 0, 1) := by decide +kernel
theorem dL_law_675 : decode cL_law 675 = .ok (.iload_n 3, 1) := by decide +kernel
theorem dL_law_676 : decode cL_law 676 = .ok (.iconst 2, 1) := by decide +kernel
theorem dL_law_677 : decode cL_law 677 = .ok (.iadd, 1) := by decide +kernel
theorem dL_law_678 : decode cL_law 678 = .ok (.iaload, 1) := by decide +kernel
theorem dL_law_679 : decode cL_law 679 = .ok (.invokevirtual 83, 3) := by decide +kernel
theorem dL_law_682 : decode cL_law 682 = .ok (.aload_n 2, 1) := by decide +kernel
theorem dL_law_683 : decode cL_law 683 = .ok (.aload_n 0, 1) := by decide +kernel
theorem dL_law_684 : decode cL_law 684 = .ok (.iload_n 3, 1) := by decide +kernel
theorem dL_law_685 : decode cL_law 685 = .ok (.iconst 1, 1) := by decide +kernel
theorem dL_law_686 : decode cL_law 686 = .ok (.iadd, 1) := by decide +kernel
theorem dL_law_687 : decode cL_law 687 = .ok (.iaload, 1) := by decide +kernel
theorem dL_law_688 : decode cL_law 688 = .ok (.aload_n 0, 1) := by decide +kernel
theorem dL_law_689 : decode cL_law 689 = .ok (.iload_n 3, 1) := by decide +kernel
theorem dL_law_690 : decode cL_law 690 = .ok (.iconst 2, 1) := by decide +kernel
theorem dL_law_691 : decode cL_law 691 = .ok (.iadd, 1) := by decide +kernel
theorem dL_law_692 : decode cL_law 692 = .ok (.iaload, 1) := by decide +kernel
theorem dL_law_693 : decode cL_law 693 = .ok (.invokevirtual 86, 3) := by decide +kernel
theorem dL_law_696 : decode cL_law 696 = .ok (.if_icmp .eq 228, 3) := by decide +kernel
theorem dL_law_699 : decode cL_law 699 = .ok (.iconst 0, 1) := by decide +kernel
theorem dL_law_700 : decode cL_law 700 = .ok (.ireturn, 1) := by decide +kernel
theorem dL_law_701 : decode cL_law 701 = .ok (.aload_n 1, 1) := by decide +kernel
theorem dL_law_702 : decode cL_law 702 = .ok (.invokevirtual 87, 3) := by decide +kernel
theorem dL_law_705 : decode cL_law 705 = .ok (.aload_n 2, 1) := by decide +kernel
theorem dL_law_706 : decode cL_law 706 = .ok (.invokevirtual 90, 3) := by decide +kernel
theorem dL_law_709 : decode cL_law 709 = .ok (.if_icmp .eq 215, 3) := by decide +kernel
theorem dL_law_712 : decode cL_law 712 = .ok (.iconst 0, 1) := by decide +kernel
theorem dL_law_713 : decode cL_law 713 = .ok (.ireturn, 1) := by decide +kernel
theorem dL_law_714 : decode cL_law 714 = .ok (.aload_n 1, 1) := by decide +kernel
theorem dL_law_715 : decode cL_law 715 = .ok (.aload_n 0, 1) := by decide +kernel
theorem dL_law_716 : decode cL_law 716 = .ok (.iload_n 3, 1) := by decide +kernel
theorem dL_law_717 : decode cL_law 717 = .ok (.iconst 1, 1) := by decide +kernel
theorem dL_law_718 : decode cL_law 718 = .ok (.iadd, 1) := by decide +kernel
theorem dL_law_719 : decode cL_law 719 = .ok (.iaload, 1) := by decide +kernel
theorem dL_law_720 : decode cL_law 720 = .ok (.aload_n 0, 1) := by decide +kernel
theorem dL_law_721 : decode cL_law 721 = .ok (.iload_n 3, 1) := by decide +kernel
theorem dL_law_722 : decode cL_law 722 = .ok (.iconst 2, 1) := by decide +kernel
theorem dL_law_723 : decode cL_law 723 = .ok (.iadd, 1) := by decide +kernel
theorem dL_law_724 : decode cL_law 724 = .ok (.iaload, 1) := by decide +kernel
theorem dL_law_725 : decode cL_law 725 = .ok (.invokevirtual 91, 3) := by decide +kernel
theorem dL_law_728 : decode cL_law 728 = .ok (.aload_n 2, 1) := by decide +kernel
theorem dL_law_729 : decode cL_law 729 = .ok (.aload_n 0, 1) := by decide +kernel
theorem dL_law_730 : decode cL_law 730 = .ok (.iload_n 3, 1) := by decide +kernel
theorem dL_law_731 : decode cL_law 731 = .ok (.iconst 1, 1) := by decide +kernel
theorem dL_law_732 : decode cL_law 732 = .ok (.iadd, 1) := by decide +kernel
theorem dL_law_733 : decode cL_law 733 = .ok (.iaload, 1) := by decide +kernel
theorem dL_law_734 : decode cL_law 734 = .ok (.aload_n 0, 1) := by decide +kernel
theorem dL_law_735 : decode cL_law 735 = .ok (.iload_n 3, 1) := by decide +kernel
theorem dL_law_736 : decode cL_law 736 = .ok (.iconst 2, 1) := by decide +kernel
theorem dL_law_737 : decode cL_law 737 = .ok (.iadd, 1) := by decide +kernel
theorem dL_law_738 : decode cL_law 738 = .ok (.iaload, 1) := by decide +kernel
theorem dL_law_739 : decode cL_law 739 = .ok (.invokevirtual 94, 3) := by decide +kernel
theorem dL_law_742 : decode cL_law 742 = .ok (.if_icmp .eq 182, 3) := by decide +kernel
theorem dL_law_745 : decode cL_law 745 = .ok (.iconst 0, 1) := by decide +kernel
theorem dL_law_746 : decode cL_law 746 = .ok (.ireturn, 1) := by decide +kernel
theorem dL_law_747 : decode cL_law 747 = .ok (.aload_n 1, 1) := by decide +kernel
theorem dL_law_748 : decode cL_law 748 = .ok (.invokevirtual 95, 3) := by decide +kernel
theorem dL_law_751 : decode cL_law 751 = .ok (.aload_n 2, 1) := by decide +kernel
theorem dL_law_752 : decode cL_law 752 = .ok (.invokevirtual 98, 3) := by decide +kernel
theorem dL_law_755 : decode cL_law 755 = .ok (.if_icmp .eq 169, 3) := by decide +kernel
theorem dL_law_758 : decode cL_law 758 = .ok (.iconst 0, 1) := by decide +kernel
theorem dL_law_759 : decode cL_law 759 = .ok (.ireturn, 1) := by decide +kernel
theorem dL_law_760 : decode cL_law 760 = .ok (.aload_n 1, 1) := by decide +kernel
theorem dL_law_761 : decode cL_law 761 = .ok (.aload_n 0, 1) := by decide +kernel
theorem dL_law_762 : decode cL_law 762 = .ok (.iload_n 3, 1) := by decide +kernel
theorem dL_law_763 : decode cL_law 763 = .ok (.iconst 1, 1) := by decide +kernel
theorem dL_law_764 : decode cL_law 764 = .ok (.iadd, 1) := by decide +kernel
theorem dL_law_765 : decode cL_law 765 = .ok (.iaload, 1) := by decide +kernel
theorem dL_law_766 : decode cL_law 766 = .ok (.invokevirtual 99, 3) := by decide +kernel
theorem dL_law_769 : decode cL_law 769 = .ok (.aload_n 2, 1) := by decide +kernel
theorem dL_law_770 : decode cL_law 770 = .ok (.aload_n 0, 1) := by decide +kernel
theorem dL_law_771 : decode cL_law 771 = .ok (.iload_n 3, 1) := by decide +kernel
theorem dL_law_772 : decode cL_law 772 = .ok (.iconst 1, 1) := by decide +kernel
theorem dL_law_773 : decode cL_law 773 = .ok (.iadd, 1) := by decide +kernel
theorem dL_law_774 : decode cL_law 774 = .ok (.iaload, 1) := by decide +kernel
theorem dL_law_775 : decode cL_law 775 = .ok (.invokevirtual 102, 3) := by decide +kernel
theorem dL_law_778 : decode cL_law 778 = .ok (.if_icmp .eq 146, 3) := by decide +kernel
theorem dL_law_781 : decode cL_law 781 = .ok (.iconst 0, 1) := by decide +kernel
theorem dL_law_782 : decode cL_law 782 = .ok (.ireturn, 1) := by decide +kernel
theorem dL_law_783 : decode cL_law 783 = .ok (.aload_n 1, 1) := by decide +kernel
theorem dL_law_784 : decode cL_law 784 = .ok (.invokevirtual 103, 3) := by decide +kernel
theorem dL_law_787 : decode cL_law 787 = .ok (.aload_n 2, 1) := by decide +kernel
theorem dL_law_788 : decode cL_law 788 = .ok (.invokevirtual 106, 3) := by decide +kernel
theorem dL_law_791 : decode cL_law 791 = .ok (.if_icmp .eq 133, 3) := by decide +kernel
theorem dL_law_794 : decode cL_law 794 = .ok (.iconst 0, 1) := by decide +kernel
theorem dL_law_795 : decode cL_law 795 = .ok (.ireturn, 1) := by decide +kernel
theorem dL_law_796 : decode cL_law 796 = .ok (.aload_n 1, 1) := by decide +kernel
theorem dL_law_797 : decode cL_law 797 = .ok (.aload_n 0, 1) := by decide +kernel
theorem dL_law_798 : decode cL_law 798 = .ok (.iload_n 3, 1) := by decide +kernel
theorem dL_law_799 : decode cL_law 799 = .ok (.iconst 1, 1) := by decide +kernel
theorem dL_law_800 : decode cL_law 800 = .ok (.iadd, 1) := by decide +kernel
theorem dL_law_801 : decode cL_law 801 = .ok (.iaload, 1) := by decide +kernel
theorem dL_law_802 : decode cL_law 802 = .ok (.invokevirtual 107, 3) := by decide +kernel
theorem dL_law_805 : decode cL_law 805 = .ok (.aload_n 2, 1) := by decide +kernel
theorem dL_law_806 : decode cL_law 806 = .ok (.aload_n 0, 1) := by decide +kernel
theorem dL_law_807 : decode cL_law 807 = .ok (.iload_n 3, 1) := by decide +kernel
theorem dL_law_808 : decode cL_law 808 = .ok (.iconst 1, 1) := by decide +kernel
theorem dL_law_809 : decode cL_law 809 = .ok (.iadd, 1) := by decide +kernel
theorem dL_law_810 : decode cL_law 810 = .ok (.iaload, 1) := by decide +kernel
theorem dL_law_811 : decode cL_law 811 = .ok (.invokevirtual 110, 3) := by decide +kernel
theorem dL_law_814 : decode cL_law 814 = .ok (.if_icmp .eq 110, 3) := by decide +kernel
theorem dL_law_817 : decode cL_law 817 = .ok (.iconst 0, 1) := by decide +kernel
theorem dL_law_818 : decode cL_law 818 = .ok (.ireturn, 1) := by decide +kernel
theorem dL_law_819 : decode cL_law 819 = .ok (.aload_n 1, 1) := by decide +kernel
theorem dL_law_820 : decode cL_law 820 = .ok (.aload_n 0, 1) := by decide +kernel
theorem dL_law_821 : decode cL_law 821 = .ok (.iload_n 3, 1) := by decide +kernel
theorem dL_law_822 : decode cL_law 822 = .ok (.iconst 1, 1) := by decide +kernel
theorem dL_law_823 : decode cL_law 823 = .ok (.iadd, 1) := by decide +kernel
theorem dL_law_824 : decode cL_law 824 = .ok (.iaload, 1) := by decide +kernel
theorem dL_law_825 : decode cL_law 825 = .ok (.invokevirtual 111, 3) := by decide +kernel
theorem dL_law_828 : decode cL_law 828 = .ok (.aload_n 2, 1) := by decide +kernel
theorem dL_law_829 : decode cL_law 829 = .ok (.aload_n 0, 1) := by decide +kernel
theorem dL_law_830 : decode cL_law 830 = .ok (.iload_n 3, 1) := by decide +kernel
theorem dL_law_831 : decode cL_law 831 = .ok (.iconst 1, 1) := by decide +kernel
theorem dL_law_832 : decode cL_law 832 = .ok (.iadd, 1) := by decide +kernel
theorem dL_law_833 : decode cL_law 833 = .ok (.iaload, 1) := by decide +kernel
theorem dL_law_834 : decode cL_law 834 = .ok (.invokevirtual 114, 3) := by decide +kernel
theorem dL_law_837 : decode cL_law 837 = .ok (.if_icmp .eq 87, 3) := by decide +kernel
theorem dL_law_840 : decode cL_law 840 = .ok (.iconst 0, 1) := by decide +kernel
theorem dL_law_841 : decode cL_law 841 = .ok (.ireturn, 1) := by decide +kernel
theorem dL_law_842 : decode cL_law 842 = .ok (.aload_n 1, 1) := by decide +kernel
theorem dL_law_843 : decode cL_law 843 = .ok (.invokevirtual 115, 3) := by decide +kernel
theorem dL_law_846 : decode cL_law 846 = .ok (.aload_n 2, 1) := by decide +kernel
theorem dL_law_847 : decode cL_law 847 = .ok (.invokevirtual 118, 3) := by decide +kernel
theorem dL_law_850 : decode cL_law 850 = .ok (.if_icmp .eq 74, 3) := by decide +kernel
theorem dL_law_853 : decode cL_law 853 = .ok (.iconst 0, 1) := by decide +kernel
theorem dL_law_854 : decode cL_law 854 = .ok (.ireturn, 1) := by decide +kernel
theorem dL_law_855 : decode cL_law 855 = .ok (.aload_n 1, 1) := by decide +kernel
theorem dL_law_856 : decode cL_law 856 = .ok (.aload_n 0, 1) := by decide +kernel
theorem dL_law_857 : decode cL_law 857 = .ok (.iload_n 3, 1) := by decide +kernel
theorem dL_law_858 : decode cL_law 858 = .ok (.iconst 1, 1) := by decide +kernel
theorem dL_law_859 : decode cL_law 859 = .ok (.iadd, 1) := by decide +kernel
theorem dL_law_860 : decode cL_law 860 = .ok (.iaload, 1) := by decide +kernel
theorem dL_law_861 : decode cL_law 861 = .ok (.aload_n 0, 1) := by decide +kernel
theorem dL_law_862 : decode cL_law 862 = .ok (.iload_n 3, 1) := by decide +kernel
theorem dL_law_863 : decode cL_law 863 = .ok (.iconst 2, 1) := by decide +kernel
theorem dL_law_864 : decode cL_law 864 = .ok (.iadd, 1) := by decide +kernel
theorem dL_law_865 : decode cL_law 865 = .ok (.iaload, 1) := by decide +kernel
theorem dL_law_866 : decode cL_law 866 = .ok (.invokevirtual 119, 3) := by decide +kernel
theorem dL_law_869 : decode cL_law 869 = .ok (.aload_n 2, 1) := by decide +kernel
theorem dL_law_870 : decode cL_law 870 = .ok (.aload_n 0, 1) := by decide +kernel
theorem dL_law_871 : decode cL_law 871 = .ok (.iload_n 3, 1) := by decide +kernel
theorem dL_law_872 : decode cL_law 872 = .ok (.iconst 1, 1) := by decide +kernel
theorem dL_law_873 : decode cL_law 873 = .ok (.iadd, 1) := by decide +kernel
theorem dL_law_874 : decode cL_law 874 = .ok (.iaload, 1) := by decide +kernel
theorem dL_law_875 : decode cL_law 875 = .ok (.aload_n 0, 1) := by decide +kernel
theorem dL_law_876 : decode cL_law 876 = .ok (.iload_n 3, 1) := by decide +kernel
theorem dL_law_877 : decode cL_law 877 = .ok (.iconst 2, 1) := by decide +kernel
theorem dL_law_878 : decode cL_law 878 = .ok (.iadd, 1) := by decide +kernel
theorem dL_law_879 : decode cL_law 879 = .ok (.iaload, 1) := by decide +kernel
theorem dL_law_880 : decode cL_law 880 = .ok (.invokevirtual 122, 3) := by decide +kernel
theorem dL_law_883 : decode cL_law 883 = .ok (.if_icmp .eq 41, 3) := by decide +kernel
theorem dL_law_886 : decode cL_law 886 = .ok (.iconst 0, 1) := by decide +kernel
theorem dL_law_887 : decode cL_law 887 = .ok (.ireturn, 1) := by decide +kernel
theorem dL_law_888 : decode cL_law 888 = .ok (.aload_n 1, 1) := by decide +kernel
theorem dL_law_889 : decode cL_law 889 = .ok (.invokevirtual 123, 3) := by decide +kernel
theorem dL_law_892 : decode cL_law 892 = .ok (.aload_n 2, 1) := by decide +kernel
theorem dL_law_893 : decode cL_law 893 = .ok (.invokevirtual 126, 3) := by decide +kernel
theorem dL_law_896 : decode cL_law 896 = .ok (.if_icmp .eq 28, 3) := by decide +kernel
theorem dL_law_899 : decode cL_law 899 = .ok (.iconst 0, 1) := by decide +kernel
theorem dL_law_900 : decode cL_law 900 = .ok (.ireturn, 1) := by decide +kernel
theorem dL_law_901 : decode cL_law 901 = .ok (.aload_n 1, 1) := by decide +kernel
theorem dL_law_902 : decode cL_law 902 = .ok (.aload_n 0, 1) := by decide +kernel
theorem dL_law_903 : decode cL_law 903 = .ok (.iload_n 3, 1) := by decide +kernel
theorem dL_law_904 : decode cL_law 904 = .ok (.iconst 1, 1) := by decide +kernel
theorem dL_law_905 : decode cL_law 905 = .ok (.iadd, 1) := by decide +kernel
theorem dL_law_906 : decode cL_law 906 = .ok (.iaload, 1) := by decide +kernel
theorem dL_law_907 : decode cL_law 907 = .ok (.invokevirtual 127, 3) := by decide +kernel
theorem dL_law_910 : decode cL_law 910 = .ok (.aload_n 2, 1) := by decide +kernel
theorem dL_law_911 : decode cL_law 911 = .ok (.aload_n 0, 1) := by decide +kernel
theorem dL_law_912 : decode cL_law 912 = .ok (.iload_n 3, 1) := by decide +kernel
theorem dL_law_913 : decode cL_law 913 = .ok (.iconst 1, 1) := by decide +kernel
theorem dL_law_914 : decode cL_law 914 = .ok (.iadd, 1) := by decide +kernel
theorem dL_law_915 : decode cL_law 915 = .ok (.iaload, 1) := by decide +kernel
theorem dL_law_916 : decode cL_law 916 = .ok (.invokevirtual 130, 3) := by decide +kernel
theorem dL_law_919 : decode cL_law 919 = .ok (.if_icmp .eq 5, 3) := by decide +kernel
theorem dL_law_922 : decode cL_law 922 = .ok (.iconst 0, 1) := by decide +kernel
theorem dL_law_923 : decode cL_law 923 = .ok (.ireturn, 1) := by decide +kernel
theorem dL_law_924 : decode cL_law 924 = .ok (.iinc 3 6, 3) := by decide +kernel
theorem dL_law_927 : decode cL_law 927 = .ok (.goto (-909), 3) := by decide +kernel
theorem dL_law_930 : decode cL_law 930 = .ok (.iconst 1, 1) := by decide +kernel
theorem dL_law_931 : decode cL_law 931 = .ok (.ireturn, 1) := by decide +kernel
end
section
/-! the layout of all cells (by program): each cell a kind and a length; offsets of references -/
def SHL : List (Nat × Nat) := [(11, 0), (0, 0), (1, 0), (20, 4), (2, 0), (20, 240), (8, 0), (20, 60), (20, 60), (20, 240), (7, 0), (22, 8), (0, 0), (1, 0), (20, 4), (2, 0), (20, 240), (8, 0), (20, 60), (20, 60), (20, 240), (0, 0), (1, 0), (20, 4), (2, 0), (20, 240), (8, 0), (20, 60), (20, 60), (20, 240), (0, 0), (1, 0), (20, 4), (2, 0), (20, 240), (8, 0), (20, 60), (20, 60), (20, 240), (0, 0), (1, 0), (20, 4), (2, 0), (20, 240), (8, 0), (20, 60), (20, 60), (20, 240), (0, 0), (1, 0), (20, 4), (2, 0), (20, 240), (8, 0), (20, 60), (20, 60), (20, 240), (0, 0), (1, 0), (20, 4), (2, 0), (20, 240), (8, 0), (20, 60), (20, 60), (20, 240), (0, 0), (1, 0), (20, 4), (2, 0), (20, 240), (8, 0), (20, 60), (20, 60), (20, 240), (0, 0), (1, 0), (20, 4), (2, 0), (20, 240), (8, 0), (20, 60), (20, 60), (20, 240), (23, 6), (8, 0), (20, 60), (20, 60), (20, 240), (8, 0), (20, 60), (20, 60), (20, 240), (8, 0), (20, 60), (20, 60), (20, 240), (8, 0), (20, 60), (20, 60), (20, 240), (8, 0), (20, 60), (20, 60), (20, 240), (8, 0), (20, 60), (20, 60), (20, 240), (9, 0), (20, 240), (20, 240), (20, 384), (20, 960), (20, 960), (5, 0), (20, 60), (20, 60), (20, 60), (20, 60), (6, 0), (20, 240), (20, 60), (20, 60), (3, 0), (20, 360), (20, 6), (20, 240), (10, 0), (20, 60), (20, 60), (20, 60), (20, 480), (4, 0), (20, 240), (20, 240), (20, 60), (4, 0), (20, 240), (20, 240), (20, 60), (8, 0), (20, 60), (20, 60), (20, 240), (12, 0), (20, 4), (20, 64), (20, 1536), (20, 60), (20, 60), (20, 60), (20, 60), (20, 6), (20, 1440), (20, 14880), (20, 216), (20, 8), (20, 384), (20, 384), (20, 384), (20, 384), (20, 384), (20, 384), (20, 384), (20, 60), (20, 60), (20, 60), (20, 60), (20, 60), (20, 60), (20, 60), (20, 60), (20, 60), (20, 240), (20, 240), (20, 60), (20, 60), (21, 384), (20, 60)]
def shp (a : Nat) : Option (Nat × Nat) := SHL[a]?
def fkL : List (List Nat) := [[3, 5, 7], [3], [3], [3, 4, 5, 0], [3, 4, 5, 0, 0], [3, 4, 5, 6, 0, 0], [3, 4, 5, 0, 0], [3, 0, 0], [3, 4, 5, 0], [3, 4, 5, 6, 7, 1, 0, 0], [3, 4, 5, 6, 0], [3, 12, 86, 111, 117, 122, 126, 130, 135, 139, 143], [0, 3, 4, 5, 0, 6, 7, 8, 9, 10, 11, 12, 0, 0, 0, 13, 14, 0, 15, 16, 17, 0, 0, 0, 18, 19, 20, 21, 22, 23, 24, 25, 26, 27, 28, 29, 30, 31, 32, 0, 33, 34, 35, 36, 0, 0, 0, 0, 0, 0, 0]]
theorem sh_0 : shp 0 = some (11, 0) := rfl
theorem sh_1 : shp 1 = some (0, 0) := rfl
theorem sh_2 : shp 2 = some (1, 0) := rfl
theorem sh_3 : shp 3 = some (20, 4) := rfl
theorem sh_4 : shp 4 = some (2, 0) := rfl
theorem sh_5 : shp 5 = some (20, 240) := rfl
theorem sh_6 : shp 6 = some (8, 0) := rfl
theorem sh_7 : shp 7 = some (20, 60) := rfl
theorem sh_8 : shp 8 = some (20, 60) := rfl
theorem sh_9 : shp 9 = some (20, 240) := rfl
theorem sh_10 : shp 10 = some (7, 0) := rfl
theorem sh_11 : shp 11 = some (22, 8) := rfl
theorem sh_12 : shp 12 = some (0, 0) := rfl
theorem sh_13 : shp 13 = some (1, 0) := rfl
theorem sh_14 : shp 14 = some (20, 4) := rfl
theorem sh_15 : shp 15 = some (2, 0) := rfl
theorem sh_16 : shp 16 = some (20, 240) := rfl
theorem sh_17 : shp 17 = some (8, 0) := rfl
theorem sh_18 : shp 18 = some (20, 60) := rfl
theorem sh_19 : shp 19 = some (20, 60) := rfl
theorem sh_20 : shp 20 = some (20, 240) := rfl
theorem sh_21 : shp 21 = some (0, 0) := rfl
theorem sh_22 : shp 22 = some (1, 0) := rfl
theorem sh_23 : shp 23 = some (20, 4) := rfl
theorem sh_24 : shp 24 = some (2, 0) := rfl
theorem sh_25 : shp 25 = some (20, 240) := rfl
theorem sh_26 : shp 26 = some (8, 0) := rfl
theorem sh_27 : shp 27 = some (20, 60) := rfl
theorem sh_28 : shp 28 = some (20, 60) := rfl
theorem sh_29 : shp 29 = some (20, 240) := rfl
theorem sh_30 : shp 30 = some (0, 0) := rfl
theorem sh_31 : shp 31 = some (1, 0) := rfl
theorem sh_32 : shp 32 = some (20, 4) := rfl
theorem sh_33 : shp 33 = some (2, 0) := rfl
theorem sh_34 : shp 34 = some (20, 240) := rfl
theorem sh_35 : shp 35 = some (8, 0) := rfl
theorem sh_36 : shp 36 = some (20, 60) := rfl
theorem sh_37 : shp 37 = some (20, 60) := rfl
theorem sh_38 : shp 38 = some (20, 240) := rfl
theorem sh_39 : shp 39 = some (0, 0) := rfl
theorem sh_40 : shp 40 = some (1, 0) := rfl
theorem sh_41 : shp 41 = some (20, 4) := rfl
theorem sh_42 : shp 42 = some (2, 0) := rfl
theorem sh_43 : shp 43 = some (20, 240) := rfl
theorem sh_44 : shp 44 = some (8, 0) := rfl
theorem sh_45 : shp 45 = some (20, 60) := rfl
theorem sh_46 : shp 46 = some (20, 60) := rfl
theorem sh_47 : shp 47 = some (20, 240) := rfl
theorem sh_48 : shp 48 = some (0, 0) := rfl
theorem sh_49 : shp 49 = some (1, 0) := rfl
theorem sh_50 : shp 50 = some (20, 4) := rfl
theorem sh_51 : shp 51 = some (2, 0) := rfl
theorem sh_52 : shp 52 = some (20, 240) := rfl
theorem sh_53 : shp 53 = some (8, 0) := rfl
theorem sh_54 : shp 54 = some (20, 60) := rfl
theorem sh_55 : shp 55 = some (20, 60) := rfl
theorem sh_56 : shp 56 = some (20, 240) := rfl
theorem sh_57 : shp 57 = some (0, 0) := rfl
theorem sh_58 : shp 58 = some (1, 0) := rfl
theorem sh_59 : shp 59 = some (20, 4) := rfl
theorem sh_60 : shp 60 = some (2, 0) := rfl
theorem sh_61 : shp 61 = some (20, 240) := rfl
theorem sh_62 : shp 62 = some (8, 0) := rfl
theorem sh_63 : shp 63 = some (20, 60) := rfl
theorem sh_64 : shp 64 = some (20, 60) := rfl
theorem sh_65 : shp 65 = some (20, 240) := rfl
theorem sh_66 : shp 66 = some (0, 0) := rfl
theorem sh_67 : shp 67 = some (1, 0) := rfl
theorem sh_68 : shp 68 = some (20, 4) := rfl
theorem sh_69 : shp 69 = some (2, 0) := rfl
theorem sh_70 : shp 70 = some (20, 240) := rfl
theorem sh_71 : shp 71 = some (8, 0) := rfl
theorem sh_72 : shp 72 = some (20, 60) := rfl
theorem sh_73 : shp 73 = some (20, 60) := rfl
theorem sh_74 : shp 74 = some (20, 240) := rfl
theorem sh_75 : shp 75 = some (0, 0) := rfl
theorem sh_76 : shp 76 = some (1, 0) := rfl
theorem sh_77 : shp 77 = some (20, 4) := rfl
theorem sh_78 : shp 78 = some (2, 0) := rfl
theorem sh_79 : shp 79 = some (20, 240) := rfl
theorem sh_80 : shp 80 = some (8, 0) := rfl
theorem sh_81 : shp 81 = some (20, 60) := rfl
theorem sh_82 : shp 82 = some (20, 60) := rfl
theorem sh_83 : shp 83 = some (20, 240) := rfl
theorem sh_84 : shp 84 = some (23, 6) := rfl
theorem sh_85 : shp 85 = some (8, 0) := rfl
theorem sh_86 : shp 86 = some (20, 60) := rfl
theorem sh_87 : shp 87 = some (20, 60) := rfl
theorem sh_88 : shp 88 = some (20, 240) := rfl
theorem sh_89 : shp 89 = some (8, 0) := rfl
theorem sh_90 : shp 90 = some (20, 60) := rfl
theorem sh_91 : shp 91 = some (20, 60) := rfl
theorem sh_92 : shp 92 = some (20, 240) := rfl
theorem sh_93 : shp 93 = some (8, 0) := rfl
theorem sh_94 : shp 94 = some (20, 60) := rfl
theorem sh_95 : shp 95 = some (20, 60) := rfl
theorem sh_96 : shp 96 = some (20, 240) := rfl
theorem sh_97 : shp 97 = some (8, 0) := rfl
theorem sh_98 : shp 98 = some (20, 60) := rfl
theorem sh_99 : shp 99 = some (20, 60) := rfl
theorem sh_100 : shp 100 = some (20, 240) := rfl
theorem sh_101 : shp 101 = some (8, 0) := rfl
theorem sh_102 : shp 102 = some (20, 60) := rfl
theorem sh_103 : shp 103 = some (20, 60) := rfl
theorem sh_104 : shp 104 = some (20, 240) := rfl
theorem sh_105 : shp 105 = some (8, 0) := rfl
theorem sh_106 : shp 106 = some (20, 60) := rfl
theorem sh_107 : shp 107 = some (20, 60) := rfl
theorem sh_108 : shp 108 = some (20, 240) := rfl
theorem sh_109 : shp 109 = some (9, 0) := rfl
theorem sh_110 : shp 110 = some (20, 240) := rfl
theorem sh_111 : shp 111 = some (20, 240) := rfl
theorem sh_112 : shp 112 = some (20, 384) := rfl
theorem sh_113 : shp 113 = some (20, 960) := rfl
theorem sh_114 : shp 114 = some (20, 960) := rfl
theorem sh_115 : shp 115 = some (5, 0) := rfl
theorem sh_116 : shp 116 = some (20, 60) := rfl
theorem sh_117 : shp 117 = some (20, 60) := rfl
theorem sh_118 : shp 118 = some (20, 60) := rfl
theorem sh_119 : shp 119 = some (20, 60) := rfl
theorem sh_120 : shp 120 = some (6, 0) := rfl
theorem sh_121 : shp 121 = some (20, 240) := rfl
theorem sh_122 : shp 122 = some (20, 60) := rfl
theorem sh_123 : shp 123 = some (20, 60) := rfl
theorem sh_124 : shp 124 = some (3, 0) := rfl
theorem sh_125 : shp 125 = some (20, 360) := rfl
theorem sh_126 : shp 126 = some (20, 6) := rfl
theorem sh_127 : shp 127 = some (20, 240) := rfl
theorem sh_128 : shp 128 = some (10, 0) := rfl
theorem sh_129 : shp 129 = some (20, 60) := rfl
theorem sh_130 : shp 130 = some (20, 60) := rfl
theorem sh_131 : shp 131 = some (20, 60) := rfl
theorem sh_132 : shp 132 = some (20, 480) := rfl
theorem sh_133 : shp 133 = some (4, 0) := rfl
theorem sh_134 : shp 134 = some (20, 240) := rfl
theorem sh_135 : shp 135 = some (20, 240) := rfl
theorem sh_136 : shp 136 = some (20, 60) := rfl
theorem sh_137 : shp 137 = some (4, 0) := rfl
theorem sh_138 : shp 138 = some (20, 240) := rfl
theorem sh_139 : shp 139 = some (20, 240) := rfl
theorem sh_140 : shp 140 = some (20, 60) := rfl
theorem sh_141 : shp 141 = some (8, 0) := rfl
theorem sh_142 : shp 142 = some (20, 60) := rfl
theorem sh_143 : shp 143 = some (20, 60) := rfl
theorem sh_144 : shp 144 = some (20, 240) := rfl
theorem sh_145 : shp 145 = some (12, 0) := rfl
theorem sh_146 : shp 146 = some (20, 4) := rfl
theorem sh_147 : shp 147 = some (20, 64) := rfl
theorem sh_148 : shp 148 = some (20, 1536) := rfl
theorem sh_149 : shp 149 = some (20, 60) := rfl
theorem sh_150 : shp 150 = some (20, 60) := rfl
theorem sh_151 : shp 151 = some (20, 60) := rfl
theorem sh_152 : shp 152 = some (20, 60) := rfl
theorem sh_153 : shp 153 = some (20, 6) := rfl
theorem sh_154 : shp 154 = some (20, 1440) := rfl
theorem sh_155 : shp 155 = some (20, 14880) := rfl
theorem sh_156 : shp 156 = some (20, 216) := rfl
theorem sh_157 : shp 157 = some (20, 8) := rfl
theorem sh_158 : shp 158 = some (20, 384) := rfl
theorem sh_159 : shp 159 = some (20, 384) := rfl
theorem sh_160 : shp 160 = some (20, 384) := rfl
theorem sh_161 : shp 161 = some (20, 384) := rfl
theorem sh_162 : shp 162 = some (20, 384) := rfl
theorem sh_163 : shp 163 = some (20, 384) := rfl
theorem sh_164 : shp 164 = some (20, 384) := rfl
theorem sh_165 : shp 165 = some (20, 60) := rfl
theorem sh_166 : shp 166 = some (20, 60) := rfl
theorem sh_167 : shp 167 = some (20, 60) := rfl
theorem sh_168 : shp 168 = some (20, 60) := rfl
theorem sh_169 : shp 169 = some (20, 60) := rfl
theorem sh_170 : shp 170 = some (20, 60) := rfl
theorem sh_171 : shp 171 = some (20, 60) := rfl
theorem sh_172 : shp 172 = some (20, 60) := rfl
theorem sh_173 : shp 173 = some (20, 60) := rfl
theorem sh_174 : shp 174 = some (20, 240) := rfl
theorem sh_175 : shp 175 = some (20, 240) := rfl
theorem sh_176 : shp 176 = some (20, 60) := rfl
theorem sh_177 : shp 177 = some (20, 60) := rfl
theorem sh_178 : shp 178 = some (21, 384) := rfl
theorem sh_179 : shp 179 = some (20, 60) := rfl
abbrev MI : Type := MethodName × ByteArray × Nat × Option FieldType × Nat × Nat
def mX11_init : MI := (yX11_init, cX11_init, 2, none, 5, 126)
def mX11_layer : MI := (yX11_layer, cX11_layer, 3, some .int, 6, 149)
def mX11_lose : MI := (yX11_lose, cX11_lose, 3, some .int, 6, 149)
def mX11_cube : MI := (yX11_cube, cX11_cube, 6, some .int, 6, 149)
def mX11_copy : MI := (yX11_copy, cX11_copy, 8, some .int, 6, 149)
def mX11_box : MI := (yX11_box, cX11_box, 6, some .int, 6, 149)
def mX11_well : MI := (yX11_well, cX11_well, 1, some .int, 1, 20)
def mX11_skin : MI := (yX11_skin, cX11_skin, 1, some .int, 1, 20)
def mX11_square : MI := (yX11_square, cX11_square, 3, some .int, 1, 21)
def mX11_across : MI := (yX11_across, cX11_across, 4, some .int, 1, 22)
def mX11_cut : MI := (yX11_cut, cX11_cut, 5, some .int, 4, 89)
def mX11_cuts : MI := (yX11_cuts, cX11_cuts, 1, some .int, 2, 42)
def mX11_open : MI := (yX11_open, cX11_open, 2, some .int, 5, 116)
def mX11_spot : MI := (yX11_spot, cX11_spot, 5, some .int, 4, 91)
def mX11_crease : MI := (yX11_crease, cX11_crease, 9, some .int, 4, 89)
def mX11_turn : MI := (yX11_turn, cX11_turn, 2, some .int, 4, 99)
def mX11_clear : MI := (yX11_clear, cX11_clear, 2, some .int, 4, 89)
def mX11_told : MI := (yX11_told, cX11_told, 3, some .int, 2, 45)
def mX11_fold : MI := (yX11_fold, cX11_fold, 1, some .int, 5, 121)
def mX11_where : MI := (yX11_where, cX11_where, 4, some .int, 5, 121)
def mX11_closed : MI := (yX11_closed, cX11_closed, 1, some .int, 5, 121)
def mX11_form : MI := (yX11_form, cX11_form, 2, some .int, 4, 96)
def mX11_same : MI := (yX11_same, cX11_same, 1, some .int, 4, 96)
def mX11_shelve : MI := (yX11_shelve, cX11_shelve, 2, some .int, 2, 47)
def mX11_alike : MI := (yX11_alike, cX11_alike, 2, some .int, 4, 96)
def mX11_wraps : MI := (yX11_wraps, cX11_wraps, 1, some .int, 5, 117)
def mX11_way : MI := (yX11_way, cX11_way, 3, some .int, 5, 117)
def mX11_undo : MI := (yX11_undo, cX11_undo, 1, some .int, 5, 129)
def mX11_count : MI := (yX11_count, cX11_count, 2, some .int, 4, 85)
def mX11_bodyHasChanged : MI := (yX11_bodyHasChanged, cX11_bodyHasChanged, 1, none, 5, 129)
def mX11_isWithin : MI := (yX11_isWithin, cX11_isWithin, 2, some .boolean, 0, 0)
def mX11_isLayer : MI := (yX11_isLayer, cX11_isLayer, 1, some .boolean, 1, 21)
def mX11_isSwitch : MI := (yX11_isSwitch, cX11_isSwitch, 1, some .boolean, 0, 0)
def mX11_isLength : MI := (yX11_isLength, cX11_isLength, 1, some .boolean, 0, 0)
def mX11_isOnTable : MI := (yX11_isOnTable, cX11_isOnTable, 1, some .boolean, 0, 0)
def mX11_arePlaces : MI := (yX11_arePlaces, cX11_arePlaces, 2, some .boolean, 0, 0)
def mX11_toldStep : MI := (yX11_toldStep, cX11_toldStep, 1, some .int, 0, 0)
def mX11_creaseMeant : MI := (yX11_creaseMeant, cX11_creaseMeant, 1, some .int, 0, 0)
def mX12_init : MI := (yX12_init, cX12_init, 1, none, 1, 20)
def mX12_in : MI := (yX12_in, cX12_in, 3, some .boolean, 0, 0)
def mX12_write : MI := (yX12_write, cX12_write, 4, none, 0, 0)
def mX12_read : MI := (yX12_read, cX12_read, 4, none, 0, 0)
def mX12_keep : MI := (yX12_keep, cX12_keep, 1, none, 1, 23)
def mX12_undo : MI := (yX12_undo, cX12_undo, 1, some .int, 1, 23)
def mX12_change : MI := (yX12_change, cX12_change, 2, none, 2, 43)
def mX12_cubesIn : MI := (yX12_cubesIn, cX12_cubesIn, 4, some .int, 0, 0)
def mX12_layer : MI := (yX12_layer, cX12_layer, 4, some .int, 3, 64)
def mX12_lose : MI := (yX12_lose, cX12_lose, 4, some .int, 3, 64)
def mX12_cube : MI := (yX12_cube, cX12_cube, 5, some .int, 3, 64)
def mX12_copy : MI := (yX12_copy, cX12_copy, 8, some .int, 3, 64)
def mX12_box : MI := (yX12_box, cX12_box, 5, some .int, 3, 64)
def mX12_cubeAt : MI := (yX12_cubeAt, cX12_cubeAt, 4, some .int, 1, 22)
def mX12_alongOf : MI := (yX12_alongOf, cX12_alongOf, 2, some .int, 0, 0)
def mX12_padded : MI := (yX12_padded, cX12_padded, 2, some .int, 2, 45)
def mX12_step : MI := (yX12_step, cX12_step, 5, some .int, 1, 22)
def mX12_hang : MI := (yX12_hang, cX12_hang, 9, some .boolean, 3, 66)
def mX12_areJoined : MI := (yX12_areJoined, cX12_areJoined, 7, some .boolean, 0, 0)
def mX12_isCornerWell : MI := (yX12_isCornerWell, cX12_isCornerWell, 5, some .boolean, 2, 45)
def mX12_isEdgeWell : MI := (yX12_isEdgeWell, cX12_isEdgeWell, 8, some .boolean, 2, 45)
def mX12_isJoinedWell : MI := (yX12_isJoinedWell, cX12_isJoinedWell, 5, some .boolean, 3, 72)
def mX12_wellOf : MI := (yX12_wellOf, cX12_wellOf, 3, some .int, 4, 96)
def mX12_well : MI := (yX12_well, cX12_well, 1, some .int, 5, 118)
def mX12_xOf : MI := (yX12_xOf, cX12_xOf, 1, some .int, 0, 0)
def mX12_yOf : MI := (yX12_yOf, cX12_yOf, 1, some .int, 0, 0)
def mX12_zOf : MI := (yX12_zOf, cX12_zOf, 1, some .int, 0, 0)
def mX12_isCube : MI := (yX12_isCube, cX12_isCube, 7, some .boolean, 2, 45)
def mX12_cubeBy : MI := (yX12_cubeBy, cX12_cubeBy, 2, some .int, 1, 21)
def mX12_findSkin : MI := (yX12_findSkin, cX12_findSkin, 3, none, 3, 71)
def mX12_squareOf : MI := (yX12_squareOf, cX12_squareOf, 3, some .int, 0, 0)
def mX12_looks : MI := (yX12_looks, cX12_looks, 5, some .int, 0, 0)
def mX12_edgeAt : MI := (yX12_edgeAt, cX12_edgeAt, 5, some .int, 1, 24)
def mX12_findAcross : MI := (yX12_findAcross, cX12_findAcross, 11, none, 3, 71)
def mX12_skin : MI := (yX12_skin, cX12_skin, 1, some .int, 4, 93)
def mX12_square : MI := (yX12_square, cX12_square, 4, some .int, 4, 93)
def mX12_across : MI := (yX12_across, cX12_across, 4, some .int, 5, 118)
def mX12_cut : MI := (yX12_cut, cX12_cut, 5, some .int, 5, 118)
def mX12_cuts : MI := (yX12_cuts, cX12_cuts, 3, some .int, 0, 0)
def mX12_stepX : MI := (yX12_stepX, cX12_stepX, 1, some .int, 0, 0)
def mX12_stepY : MI := (yX12_stepY, cX12_stepY, 1, some .int, 0, 0)
def mX12_layAcross : MI := (yX12_layAcross, cX12_layAcross, 8, some .int, 4, 101)
def mX12_lay : MI := (yX12_lay, cX12_lay, 6, some .int, 5, 128)
def mX12_open : MI := (yX12_open, cX12_open, 5, some .int, 6, 153)
def mX12_isAhead : MI := (yX12_isAhead, cX12_isAhead, 4, some .boolean, 0, 0)
def mX12_place : MI := (yX12_place, cX12_place, 6, none, 0, 0)
def mX12_sort : MI := (yX12_sort, cX12_sort, 7, none, 1, 25)
def mX12_creases : MI := (yX12_creases, cX12_creases, 3, some .int, 0, 0)
def mX12_spotAt : MI := (yX12_spotAt, cX12_spotAt, 4, some .int, 0, 0)
def mX12_neighbour : MI := (yX12_neighbour, cX12_neighbour, 3, some .int, 1, 23)
def mX12_creaseOf : MI := (yX12_creaseOf, cX12_creaseOf, 4, some .int, 2, 45)
def mX12_setCrease : MI := (yX12_setCrease, cX12_setCrease, 5, none, 2, 45)
def mX12_isPlace : MI := (yX12_isPlace, cX12_isPlace, 2, some .boolean, 1, 22)
def mX12_spot : MI := (yX12_spot, cX12_spot, 6, some .int, 3, 69)
def mX12_toldOf : MI := (yX12_toldOf, cX12_toldOf, 1, some .int, 0, 0)
def mX12_crease : MI := (yX12_crease, cX12_crease, 7, some .int, 3, 69)
def mX12_turned : MI := (yX12_turned, cX12_turned, 4, none, 3, 68)
def mX12_turn : MI := (yX12_turn, cX12_turn, 2, some .int, 4, 91)
def mX12_clear : MI := (yX12_clear, cX12_clear, 2, some .int, 2, 43)
def mX12_told : MI := (yX12_told, cX12_told, 5, some .int, 3, 68)
def mX12_toward : MI := (yX12_toward, cX12_toward, 3, some .int, 0, 0)
def mX12_foldAcross : MI := (yX12_foldAcross, cX12_foldAcross, 17, some .int, 3, 68)
def mX12_foldOf : MI := (yX12_foldOf, cX12_foldOf, 6, some .int, 4, 104)
def mX12_fold : MI := (yX12_fold, cX12_fold, 1, some .int, 5, 129)
def mX12_where : MI := (yX12_where, cX12_where, 4, some .int, 5, 129)
def mX12_isOn : MI := (yX12_isOn, cX12_isOn, 8, some .boolean, 1, 22)
def mX12_closed : MI := (yX12_closed, cX12_closed, 4, some .int, 5, 129)
def mX12_writeForm : MI := (yX12_writeForm, cX12_writeForm, 4, none, 0, 0)
def mX12_compare : MI := (yX12_compare, cX12_compare, 4, some .int, 0, 0)
def mX12_findForm : MI := (yX12_findForm, cX12_findForm, 4, none, 4, 91)
def mX12_form : MI := (yX12_form, cX12_form, 2, some .int, 5, 114)
def mX12_same : MI := (yX12_same, cX12_same, 1, some .int, 5, 114)
def mX12_shelve : MI := (yX12_shelve, cX12_shelve, 3, some .int, 5, 114)
def mX12_alike : MI := (yX12_alike, cX12_alike, 4, some .int, 5, 114)
def mX12_wrapAcross : MI := (yX12_wrapAcross, cX12_wrapAcross, 6, some .int, 4, 101)
def mX12_doesWrap : MI := (yX12_doesWrap, cX12_doesWrap, 6, some .boolean, 5, 126)
def mX12_findWraps : MI := (yX12_findWraps, cX12_findWraps, 5, none, 6, 151)
def mX12_wraps : MI := (yX12_wraps, cX12_wraps, 1, some .int, 7, 175)
def mX12_way : MI := (yX12_way, cX12_way, 3, some .int, 7, 175)
def mX12_count : MI := (yX12_count, cX12_count, 2, some .int, 1, 23)
def mX0_init : MI := (yX0_init, cX0_init, 1, none, 2, 43)
def mX0_become : MI := (yX0_become, cX0_become, 2, none, 2, 47)
def mX1_init : MI := (yX1_init, cX1_init, 1, none, 1, 23)
def mX1_coordinate : MI := (yX1_coordinate, cX1_coordinate, 2, some .int, 0, 0)
def mX1_against : MI := (yX1_against, cX1_against, 1, some .int, 0, 0)
def mX1_step : MI := (yX1_step, cX1_step, 2, some .int, 0, 0)
def mX1_beyond : MI := (yX1_beyond, cX1_beyond, 5, some .int, 1, 21)
def mX1_has : MI := (yX1_has, cX1_has, 3, some .boolean, 0, 0)
def mX1_become : MI := (yX1_become, cX1_become, 2, none, 1, 26)
def mX1_misses : MI := (yX1_misses, cX1_misses, 2, some .boolean, 0, 0)
def mX1_bitsOf : MI := (yX1_bitsOf, cX1_bitsOf, 2, some .int, 1, 21)
def mX1_put : MI := (yX1_put, cX1_put, 3, none, 0, 0)
def mX1_take : MI := (yX1_take, cX1_take, 2, none, 0, 0)
def mX1_cubesIn : MI := (yX1_cubesIn, cX1_cubesIn, 2, some .int, 2, 42)
def mX1_cubes : MI := (yX1_cubes, cX1_cubes, 1, some .int, 3, 65)
def mX1_layersThere : MI := (yX1_layersThere, cX1_layersThere, 3, some .int, 1, 21)
def mX1_cells : MI := (yX1_cells, cX1_cells, 4, some .long, 2, 42)
def mX1_faultOf : MI := (yX1_faultOf, cX1_faultOf, 4, some .int, 3, 83)
def mX1_meetsBySquares : MI := (yX1_meetsBySquares, cX1_meetsBySquares, 9, some .boolean, 2, 55)
def mX1_hangs : MI := (yX1_hangs, cX1_hangs, 2, some .boolean, 1, 34)
def mX1_flood : MI := (yX1_flood, cX1_flood, 15, some .long, 0, 0)
def mX2_init : MI := (yX2_init, cX2_init, 1, none, 1, 20)
def mX2_become : MI := (yX2_become, cX2_become, 2, none, 1, 26)
def mX2_mend : MI := (yX2_mend, cX2_mend, 1, none, 1, 23)
def mX2_isCut : MI := (yX2_isCut, cX2_isCut, 3, some .boolean, 0, 0)
def mX2_mark : MI := (yX2_mark, cX2_mark, 5, none, 0, 0)
def mX2_marks : MI := (yX2_marks, cX2_marks, 3, some .int, 1, 20)
def mX3_init : MI := (yX3_init, cX3_init, 1, none, 1, 20)
def mX3_run : MI := (yX3_run, cX3_run, 3, some .int, 4, 99)
def mX3_poseOf : MI := (yX3_poseOf, cX3_poseOf, 3, some .int, 0, 0)
def mX3_layAll : MI := (yX3_layAll, cX3_layAll, 7, none, 3, 73)
def mX3_heading : MI := (yX3_heading, cX3_heading, 4, some .int, 1, 22)
def mX3_cross : MI := (yX3_cross, cX3_cross, 9, none, 2, 45)
def mX3_agrees : MI := (yX3_agrees, cX3_agrees, 6, some .boolean, 3, 73)
def mX3_liesBeside : MI := (yX3_liesBeside, cX3_liesBeside, 3, some .boolean, 1, 22)
def mX3_overlaps : MI := (yX3_overlaps, cX3_overlaps, 3, some .boolean, 1, 22)
def mX3_leavesNoGap : MI := (yX3_leavesNoGap, cX3_leavesNoGap, 3, some .boolean, 3, 70)
def mX3_rim : MI := (yX3_rim, cX3_rim, 6, some .int, 2, 45)
def mX3_timesAmongRims : MI := (yX3_timesAmongRims, cX3_timesAmongRims, 4, some .int, 0, 0)
def mX4_init : MI := (yX4_init, cX4_init, 1, none, 1, 20)
def mX4_length : MI := (yX4_length, cX4_length, 1, some .int, 0, 0)
def mX4_number : MI := (yX4_number, cX4_number, 2, some .int, 0, 0)
def mX4_timesWritten : MI := (yX4_timesWritten, cX4_timesWritten, 1, some .int, 0, 0)
def mX4_matches : MI := (yX4_matches, cX4_matches, 2, some .boolean, 1, 23)
def mX4_take : MI := (yX4_take, cX4_take, 4, none, 3, 73)
def mX4_compare : MI := (yX4_compare, cX4_compare, 4, some .int, 0, 0)
def mX4_write : MI := (yX4_write, cX4_write, 9, none, 2, 45)
def mX4_insertKey : MI := (yX4_insertKey, cX4_insertKey, 4, none, 0, 0)
def mX5_init : MI := (yX5_init, cX5_init, 1, none, 1, 20)
def mX5_lay : MI := (yX5_lay, cX5_lay, 3, some .int, 4, 94)
def mX5_isWithinReach : MI := (yX5_isWithinReach, cX5_isWithinReach, 2, some .boolean, 1, 20)
def mX5_drawOn : MI := (yX5_drawOn, cX5_drawOn, 10, none, 3, 73)
def mX5_layAll : MI := (yX5_layAll, cX5_layAll, 8, none, 2, 45)
def mX5_layOne : MI := (yX5_layOne, cX5_layOne, 5, none, 0, 0)
def mX5_turnBeside : MI := (yX5_turnBeside, cX5_turnBeside, 4, some .int, 1, 22)
def mX5_agrees : MI := (yX5_agrees, cX5_agrees, 5, some .boolean, 3, 70)
def mX5_liesBeside : MI := (yX5_liesBeside, cX5_liesBeside, 6, some .boolean, 2, 45)
def mX5_overlaps : MI := (yX5_overlaps, cX5_overlaps, 3, some .boolean, 0, 0)
def mX6_init : MI := (yX6_init, cX6_init, 1, none, 1, 20)
def mX6_trace : MI := (yX6_trace, cX6_trace, 5, none, 3, 68)
def mX6_reachAll : MI := (yX6_reachAll, cX6_reachAll, 5, none, 1, 23)
def mX6_hangTogether : MI := (yX6_hangTogether, cX6_hangTogether, 1, some .boolean, 0, 0)
def mX6_next : MI := (yX6_next, cX6_next, 3, some .int, 0, 0)
def mX6_inOrder : MI := (yX6_inOrder, cX6_inOrder, 2, some .int, 0, 0)
def mX6_reachedFrom : MI := (yX6_reachedFrom, cX6_reachedFrom, 2, some .int, 0, 0)
def mX6_reachedBy : MI := (yX6_reachedBy, cX6_reachedBy, 2, some .int, 0, 0)
def mX7_init : MI := (yX7_init, cX7_init, 2, none, 3, 63)
def mX7_size : MI := (yX7_size, cX7_size, 1, some .int, 0, 0)
def mX7_keep : MI := (yX7_keep, cX7_keep, 2, none, 3, 68)
def mX7_giveBack : MI := (yX7_giveBack, cX7_giveBack, 2, none, 3, 68)
def mX8_init : MI := (yX8_init, cX8_init, 1, none, 1, 20)
def mX8_stepX : MI := (yX8_stepX, cX8_stepX, 1, some .int, 0, 0)
def mX8_stepY : MI := (yX8_stepY, cX8_stepY, 1, some .int, 0, 0)
def mX8_mirrored : MI := (yX8_mirrored, cX8_mirrored, 1, some .int, 0, 0)
def mX8_size : MI := (yX8_size, cX8_size, 1, some .int, 0, 0)
def mX8_xOf : MI := (yX8_xOf, cX8_xOf, 2, some .int, 0, 0)
def mX8_yOf : MI := (yX8_yOf, cX8_yOf, 2, some .int, 0, 0)
def mX8_creaseAt : MI := (yX8_creaseAt, cX8_creaseAt, 3, some .int, 0, 0)
def mX8_creasesOf : MI := (yX8_creasesOf, cX8_creasesOf, 4, some .int, 1, 22)
def mX8_creaseCount : MI := (yX8_creaseCount, cX8_creaseCount, 3, some .int, 2, 45)
def mX8_drop : MI := (yX8_drop, cX8_drop, 1, none, 0, 0)
def mX8_become : MI := (yX8_become, cX8_become, 2, none, 1, 26)
def mX8_find : MI := (yX8_find, cX8_find, 4, some .int, 1, 23)
def mX8_beside : MI := (yX8_beside, cX8_beside, 3, some .int, 2, 46)
def mX8_firstNotBefore : MI := (yX8_firstNotBefore, cX8_firstNotBefore, 4, some .int, 0, 0)
def mX8_add : MI := (yX8_add, cX8_add, 5, some .int, 2, 49)
def mX8_remove : MI := (yX8_remove, cX8_remove, 4, none, 3, 68)
def mX8_shift : MI := (yX8_shift, cX8_shift, 4, none, 1, 26)
def mX8_join : MI := (yX8_join, cX8_join, 5, none, 0, 0)
def mX8_becomeTurned : MI := (yX8_becomeTurned, cX8_becomeTurned, 7, none, 3, 73)
def mX8_turnedX : MI := (yX8_turnedX, cX8_turnedX, 5, some .int, 1, 20)
def mX8_turnedY : MI := (yX8_turnedY, cX8_turnedY, 5, some .int, 1, 20)
def mX8_turnedCrease : MI := (yX8_turnedCrease, cX8_turnedCrease, 6, some .int, 1, 20)
def mX9_init : MI := (yX9_init, cX9_init, 1, none, 4, 106)
def mX9_take : MI := (yX9_take, cX9_take, 4, none, 4, 106)
def mX9_fault : MI := (yX9_fault, cX9_fault, 1, some .int, 0, 0)
def mX9_size : MI := (yX9_size, cX9_size, 1, some .int, 0, 0)
def mX9_placeOf : MI := (yX9_placeOf, cX9_placeOf, 2, some .int, 0, 0)
def mX9_directionOf : MI := (yX9_directionOf, cX9_directionOf, 2, some .int, 0, 0)
def mX9_squareAcross : MI := (yX9_squareAcross, cX9_squareAcross, 3, some .int, 0, 0)
def mX9_sideAcross : MI := (yX9_sideAcross, cX9_sideAcross, 3, some .int, 0, 0)
def mX9_bendAcross : MI := (yX9_bendAcross, cX9_bendAcross, 3, some .int, 0, 0)
def mX9_numberSquares : MI := (yX9_numberSquares, cX9_numberSquares, 4, none, 2, 45)
def mX9_lead : MI := (yX9_lead, cX9_lead, 8, none, 2, 49)
def mX9_note : MI := (yX9_note, cX9_note, 8, none, 1, 22)
def mX9_sideLooking : MI := (yX9_sideLooking, cX9_sideLooking, 3, some .int, 0, 0)
def mX10_init : MI := (yX10_init, cX10_init, 1, none, 1, 20)
def mX10_ways : MI := (yX10_ways, cX10_ways, 1, some .int, 0, 0)
def mX10_squareOf : MI := (yX10_squareOf, cX10_squareOf, 2, some .int, 0, 0)
def mX10_turnOf : MI := (yX10_turnOf, cX10_turnOf, 2, some .int, 0, 0)
def mX10_isTurnedOver : MI := (yX10_isTurnedOver, cX10_isTurnedOver, 2, some .boolean, 0, 0)
def mX10_seek : MI := (yX10_seek, cX10_seek, 6, none, 4, 92)
def mX10_fits : MI := (yX10_fits, cX10_fits, 9, some .boolean, 2, 49)
def mX10_lay : MI := (yX10_lay, cX10_lay, 3, none, 0, 0)
def mX10_landing : MI := (yX10_landing, cX10_landing, 8, some .int, 1, 22)
def mJ6_bitCount_0f7a4 : MI := (yJ6_bitCount_0f7a4, cJ6_bitCount_0f7a4, 1, some .int, 0, 0)
def mJ13_bitCount_95d88 : MI := (yJ13_bitCount_95d88, cJ13_bitCount_95d88, 2, some .int, 0, 0)
def mJ9_abs_0f7a4 : MI := (yJ9_abs_0f7a4, cJ9_abs_0f7a4, 1, some .int, 0, 0)
def mJ9_min_7cf53 : MI := (yJ9_min_7cf53, cJ9_min_7cf53, 2, some .int, 0, 0)
def mJ7_fill_53178 : MI := (yJ7_fill_53178, cJ7_fill_53178, 4, none, 0, 0)
end
section
/-! THE JUDGEMENT Tj: a method of the system, at a pc, over cells whose places are fixed (shp) and whose numbers are Ints.
A value is an Int (an int in range), an Int64, or the number of a cell. -/
abbrev tV : Type := Int ⊕ Int64 ⊕ Nat
abbrev iV (n : Int) : tV := .inl n
abbrev lV (x : Int64) : tV := .inr (.inl x)
abbrev rV (a : Nat) : tV := .inr (.inr a)
abbrev tM : Type := Nat → Int → Int
abbrev R32 (x : Int) : Prop := -2147483648 ≤ x ∧ x ≤ 2147483647
def tR : tV → Prop
  | .inl n => R32 n
  | .inr _ => True
def rv (ρ : Nat → Nat) : tV → Value
  | .inl n => .int (Int32.ofInt n)
  | .inr (.inl x) => .long x
  | .inr (.inr a) => .ref (ρ a)
def tcat : tV → Nat
  | .inr (.inl _) => 2
  | _ => 1
theorem tcat_eq (ρ : Nat → Nat) (v : tV) : (rv ρ v).category = tcat v := by
  rcases v with n | x | a <;> rfl
theorem ti {x : Int} (h : R32 x) : (Int32.ofInt x).toInt = x := Int32.toInt_ofInt_of_le (by omega) (by omega)
theorem ti_inj {x y : Int} (hx : R32 x) (hy : R32 y) : Int32.ofInt x = Int32.ofInt y ↔ x = y := by
  rw [← Int32.toInt_inj, ti hx, ti hy]
theorem ti_lt {x y : Int} (hx : R32 x) (hy : R32 y) : Int32.ofInt x < Int32.ofInt y ↔ x < y := by
  rw [Int32.lt_iff_toInt_lt, ti hx, ti hy]
theorem ti_le {x y : Int} (hx : R32 x) (hy : R32 y) : Int32.ofInt x ≤ Int32.ofInt y ↔ x ≤ y := by
  rw [Int32.le_iff_toInt_le, ti hx, ti hy]
theorem ti_0 : Int32.ofInt 0 = 0 := by decide +kernel
theorem ti_of (x : Int32) : Int32.ofInt x.toInt = x := Int32.ofInt_toInt x
theorem tr_of (x : Int32) : R32 x.toInt := by
  have h1 := Int32.toInt_lt x
  have h2 := Int32.le_toInt x
  constructor <;> omega
theorem ti_cl {x : Int} (h0 : 0 ≤ x) (h : R32 x) : (Int32.ofInt x).toNatClampNeg = x.toNat := by
  show (Int32.ofInt x).toInt.toNat = x.toNat
  rw [ti h]
theorem ti_in {x : Int} {n : Nat} (h0 : 0 ≤ x) (h1 : x < n) (h : R32 x) : vp_in (Int32.ofInt x) n := by
  rw [vp_in_iff, ti h]
  exact ⟨h0, h1⟩
/-- the fields of a cell -/
def fv (ρ : Nat → Nat) (a : Nat) (k : Nat) (x : Int) : Value :=
  match k with
  | 0 => .int (Int32.ofInt x)
  | 1 => .long (Int64.ofInt x)
  | d + 2 => .ref (ρ (a + d))
def tfs (ρ : Nat → Nat) (a : Nat) : List Nat → Nat → (Int → Int) → List Value
  | [], _, _ => []
  | k :: ks, j, r => fv ρ a k (r (j : Int)) :: tfs ρ a ks (j + 1) r
theorem tfs_get (ρ : Nat → Nat) (a : Nat) (r : Int → Int) : ∀ (ks : List Nat) (j i : Nat), (tfs ρ a ks j r)[i]? = (ks[i]?).map (fun k => fv ρ a k (r ((j + i : Nat) : Int)))
  | [], j, i => by simp [tfs]
  | k :: ks, j, 0 => by simp [tfs]
  | k :: ks, j, i + 1 => by
    rw [tfs, List.getElem?_cons_succ, tfs_get ρ a r ks (j + 1) i, List.getElem?_cons_succ]
    rw [show j + 1 + i = j + (i + 1) by omega]
theorem tfs_len (ρ : Nat → Nat) (a : Nat) (r : Int → Int) : ∀ (ks : List Nat) (j : Nat), (tfs ρ a ks j r).length = ks.length
  | [], j => rfl
  | k :: ks, j => by rw [tfs, List.length_cons, List.length_cons, tfs_len ρ a r ks (j + 1)]
/-- a row with one number changed; a memory with one row changed; with one number changed -/
def ur (r : Int → Int) (i x : Int) : Int → Int := fun j => if j = i then x else r j
def sr (m : tM) (a : Nat) (r : Int → Int) : tM := fun b => if b = a then r else m b
abbrev up (m : tM) (a : Nat) (i x : Int) : tM := sr m a (ur (m a) i x)
theorem sr_eq (m : tM) (a : Nat) (r : Int → Int) : sr m a r a = r := by simp [sr]
theorem sr_ne (m : tM) {a b : Nat} (r : Int → Int) (h : b ≠ a) : sr m a r b = m b := by simp [sr, h]
theorem ur_eq (r : Int → Int) (i x : Int) : ur r i x i = x := by simp [ur]
theorem ur_ne (r : Int → Int) {i j : Int} (x : Int) (h : j ≠ i) : ur r i x j = r j := by simp [ur, h]
theorem tfs_upd (ρ : Nat → Nat) (a : Nat) (r : Int → Int) (ks : List Nat) (i : Nat) (k : Nat) (x : Int) (h : ks[i]? = some k) : tfs ρ a ks 0 (ur r (i : Int) x) = (tfs ρ a ks 0 r).set i (fv ρ a k x) := by
  apply List.ext_getElem?
  intro n
  have hi : i < ks.length := (List.getElem?_eq_some_iff.mp h).1
  rw [tfs_get, Nat.zero_add]
  by_cases hn : n = i
  · subst hn
    rw [List.getElem?_set_self (by rw [tfs_len]; exact hi), h, ur_eq]
    rfl
  · rw [List.getElem?_set_ne (Ne.symm hn), tfs_get, Nat.zero_add, ur_ne r x (by omega)]
/-- a cell of the world -/
def tel (cA : Nat → ClassId) (ρ : Nat → Nat) (a : Nat) (sh : Nat × Nat) (r : Int → Int) : va_E :=
  if sh.1 = 20 then .inl (cA 0, sh.2, .inl (fun i => Int32.ofInt (r (i : Int))))
  else if sh.1 = 21 then .inl (cA 1, sh.2, .inl (fun i => Int32.ofInt (r (i : Int))))
  else if sh.1 = 22 then .inl (cA 2, sh.2, .inr (.inr (.inr (.inr (fun i => some (ρ (a + 1 + 9 * i)))))))
  else if sh.1 = 23 then .inl (cA 3, sh.2, .inr (.inr (.inr (.inr (fun i => some (ρ (a + 1 + 4 * i)))))))
  else .inr (sh.1, tfs ρ a (fkL.getD sh.1 []) 0 r)
theorem tel_20 (cA : Nat → ClassId) (ρ : Nat → Nat) (a n : Nat) (r : Int → Int) : tel cA ρ a (20, n) r = .inl (cA 0, n, .inl (fun i => Int32.ofInt (r (i : Int)))) := rfl
theorem tel_21 (cA : Nat → ClassId) (ρ : Nat → Nat) (a n : Nat) (r : Int → Int) : tel cA ρ a (21, n) r = .inl (cA 1, n, .inl (fun i => Int32.ofInt (r (i : Int)))) := rfl
theorem tel_22 (cA : Nat → ClassId) (ρ : Nat → Nat) (a n : Nat) (r : Int → Int) : tel cA ρ a (22, n) r = .inl (cA 2, n, .inr (.inr (.inr (.inr (fun i => some (ρ (a + 1 + 9 * i))))))) := rfl
theorem tel_23 (cA : Nat → ClassId) (ρ : Nat → Nat) (a n : Nat) (r : Int → Int) : tel cA ρ a (23, n) r = .inl (cA 3, n, .inr (.inr (.inr (.inr (fun i => some (ρ (a + 1 + 4 * i))))))) := rfl
theorem tel_o (cA : Nat → ClassId) (ρ : Nat → Nat) (a ci n : Nat) (r : Int → Int) (h : ci < 20) : tel cA ρ a (ci, n) r = .inr (ci, tfs ρ a (fkL.getD ci []) 0 r) := by
  unfold tel
  rw [if_neg (by show ¬ ci = 20; omega), if_neg (by show ¬ ci = 21; omega), if_neg (by show ¬ ci = 22; omega), if_neg (by show ¬ ci = 23; omega)]
def twd (cA : Nat → ClassId) (ρ : Nat → Nat) (m : tM) : va_W := (List.range SHL.length).map (fun a => (ρ a, tel cA ρ a ((shp a).getD (0, 0)) (m a)))
theorem shp_lt {a : Nat} {sh : Nat × Nat} (h : shp a = some sh) : a < SHL.length := (List.getElem?_eq_some_iff.mp h).1
theorem twd_get {cA : Nat → ClassId} {ρ : Nat → Nat} {m : tM} {a : Nat} {sh : Nat × Nat} (h : shp a = some sh) : (twd cA ρ m)[a]? = some (ρ a, tel cA ρ a sh (m a)) := by
  unfold twd
  rw [List.getElem?_map, List.getElem?_range (shp_lt h)]
  show some (ρ a, tel cA ρ a ((shp a).getD (0, 0)) (m a)) = _
  rw [h]
  rfl
theorem twd_set {cA : Nat → ClassId} {ρ : Nat → Nat} {m : tM} {a : Nat} {sh : Nat × Nat} (h : shp a = some sh) (r : Int → Int) : (twd cA ρ m).set a (ρ a, tel cA ρ a sh r) = twd cA ρ (sr m a r) := by
  apply List.ext_getElem?
  intro n
  by_cases hn : n = a
  · subst hn
    have hl : n < (twd cA ρ m).length := by unfold twd; rw [List.length_map, List.length_range]; exact shp_lt h
    rw [List.getElem?_set_self hl, twd_get h, sr_eq]
  · rw [List.getElem?_set_ne (Ne.symm hn)]
    unfold twd
    rw [List.getElem?_map, List.getElem?_map]
    cases hr : (List.range SHL.length)[n]? with
    | none => rfl
    | some b =>
      have hb : b = n := by
        have := (List.getElem?_eq_some_iff.mp hr).2
        rw [List.getElem_range] at this
        exact this.symm
      subst hb
      show some (ρ b, tel cA ρ b ((shp b).getD (0, 0)) (m b)) = some (ρ b, tel cA ρ b ((shp b).getD (0, 0)) (sr m a r b))
      rw [sr_ne m r hn]
def tA (ρ : Nat → Nat) : Nat → Prop := fun q => ∃ a, a < SHL.length ∧ q = ρ a
/-- the static tables -/
def stI (a : Nat) (j : Int) : Int :=
  if a = 1001 then ([2, 4, 3, 5, 2, 5, 3, 4, 4, 0, 5, 1, 4, 1, 5, 0, 0, 2, 1, 3, 0, 3, 1, 2] : List Int).getD j.toNat 0
  else if a = 1002 then ([1, 0, -1, 0] : List Int).getD j.toNat 0
  else ([0, 1, 0, -1] : List Int).getD j.toNat 0
def stL (j : Int) : Int64 := ([0x330033, 0x110011, 0x220022, 0x030003, 0x300030, 0x000033, 0x330000] : List Int64).getD j.toNat 0
abbrev ttys (cA : Nat → ClassId) : List (ClassId × FieldType) := [(cA 0, .int), (cA 1, .boolean), (cA 2, .object RX0), (cA 3, .object RX8)]
/-- a static table, and the field that holds it -/
def tSt (C n d : String) (ty : FieldType) (a N : Nat) (f : Nat → Value) (ρ : Nat → Nat) (U : State) : Prop := va_Z C n d (.ref (ρ a)) (tA ρ) U U.heap ∧ va_T ty (ρ a) N f (tA ρ) U U.heap
def TW (D : va_G) (cA : Nat → ClassId) (ρ : Nat → Nat) (U : State) : Prop :=
  va_K D vwCl (ttys cA) U ∧ (∀ m, va_D (tA ρ) (twd cA ρ m)) ∧
  tSt "CubeCarton$Body" "AROUND_CORNER" "[J" .long 1000 7 (fun j => .long (stL (j : Int))) ρ U ∧
  tSt "CubeCarton$Skin" "LOOKS" "[I" .int 1001 24 (fun j => .int (Int32.ofInt (stI 1001 (j : Int)))) ρ U ∧
  tSt "CubeCarton$Sheet" "STEP_X" "[I" .int 1002 4 (fun j => .int (Int32.ofInt (stI 1002 (j : Int)))) ρ U ∧
  tSt "CubeCarton$Sheet" "STEP_Y" "[I" .int 1003 4 (fun j => .int (Int32.ofInt (stI 1003 (j : Int)))) ρ U
theorem tSt.moved {C n d : String} {ty : FieldType} {a N : Nat} {f : Nat → Value} {ρ : Nat → Nat} {u U : State} (h : tSt C n d ty a N f ρ u) (hvm : u.vm.Alike U.vm) (hq : ∀ q : Nat, q < u.heap.size → ¬ tA ρ q → U.heap[q]? = u.heap[q]?) : tSt C n d ty a N f ρ U :=
  ⟨va_Z.moved hvm (va_Z.kept h.1 hq), va_T.moved hvm (va_T.kept h.2 hq)⟩
theorem TW.moved {D : va_G} {cA : Nat → ClassId} {ρ : Nat → Nat} {u U : State} (h : TW D cA ρ u) (hvm : u.vm.Alike U.vm) (hq : ∀ q : Nat, q < u.heap.size → ¬ tA ρ q → U.heap[q]? = u.heap[q]?) : TW D cA ρ U :=
  ⟨va_K.moved hvm h.1, h.2.1, h.2.2.1.moved hvm hq, h.2.2.2.1.moved hvm hq, h.2.2.2.2.1.moved hvm hq, h.2.2.2.2.2.moved hvm hq⟩
def tJ (a : Nat) (i : Int) : Bool := (fkL.getD ((shp a).getD (99, 0)).1 []).getD i.toNat 0 == 1
def M32 (m : tM) : Prop := ∀ (a : Nat) (i : Int), tJ a i = false → R32 (m a i)
def trm (M : MI) : Room := { frames := M.2.2.2.2.1, cells := 0, slots := 0, locals := M.2.2.2.2.2 }
def tws (M : MI) : List Cond := Cond.code M.1 M.2.1 M.2.2.1 M.2.2.2.1 :: lw_tbl
/-- how a method ends -/
def tQ (D : va_G) (cA : Nat → ClassId) (ρ : Nat → Nat) (P : Option tV → tM → Prop) : Array Value → State → Outcome → State → Prop := fun _ st oc t =>
  (∃ (r : Option tV) (m : tM), oc = .returned (r.map (rv ρ)) ∧ P r m ∧ (∀ v, r = some v → tR v) ∧ M32 m ∧ va_P D vwCl (twd cA ρ m) t.heap) ∧ va_F (tA ρ) st t
/-- what stays the same while a method runs -/
def CX (M : MI) (p : Program) (s : State) (mid : MethodId) (args : Array Value) (meth : Method) (c : Code) (D : va_G) (cA : Nat → ClassId) (ρ : Nat → Nat) : Prop :=
  p.tables.exec = Jvm.exec ∧ c.code = M.2.1 ∧ meth.sig.returnType = M.2.2.2.1 ∧ c.maxLocals = M.2.2.1 ∧ s.vm.findClass M.1.cls = some mid.cls ∧ (∀ w ∈ lw_tbl, w.before args s = true) ∧ meth.locks = false ∧ TW D cA ρ s
/-- the locals -/
def gl : List (Option tV) → Nat → Option tV
  | [], _ => none
  | x :: _, 0 => x
  | _ :: l, n + 1 => gl l n
def sl : List (Option tV) → Nat → tV → List (Option tV)
  | [], 0, v => [some v]
  | [], n + 1, v => none :: sl [] n v
  | _ :: l, 0, v => some v :: l
  | x :: l, n + 1, v => x :: sl l n v
def tL (ρ : Nat → Nat) (ls : Array Slot) (n : Nat) (lv : List (Option tV)) : Prop := ls.size = n ∧ lv_wf ls ∧ ∀ (i : Nat) (v : tV), gl lv i = some v → ls[i]? = some (.val (rv ρ v))
theorem gl_sl : ∀ (lv : List (Option tV)) (i : Nat) (v : tV) (j : Nat), gl (sl lv i v) j = if j = i then some v else gl lv j
  | [], 0, v, 0 => rfl
  | [], 0, v, j + 1 => rfl
  | [], i + 1, v, 0 => rfl
  | [], i + 1, v, j + 1 => by
    show gl (sl [] i v) j = _
    rw [gl_sl [] i v j]
    by_cases h : j = i
    · rw [if_pos h, if_pos (by omega)]
    · rw [if_neg h, if_neg (by omega)]
      rfl
  | x :: l, 0, v, 0 => rfl
  | x :: l, 0, v, j + 1 => rfl
  | x :: l, i + 1, v, 0 => rfl
  | x :: l, i + 1, v, j + 1 => by
    show gl (sl l i v) j = _
    rw [gl_sl l i v j]
    by_cases h : j = i
    · rw [if_pos h, if_pos (by omega)]
    · rw [if_neg h, if_neg (by omega)]
      rfl
/-- taking a value out of the locals -/
def kl : List (Option tV) → Nat → List (Option tV)
  | [], _ => []
  | _ :: l, 0 => none :: l
  | x :: l, n + 1 => x :: kl l n
theorem gl_kl : ∀ (lv : List (Option tV)) (i j : Nat), gl (kl lv i) j = if j = i then none else gl lv j
  | [], i, j => by show none = _; split <;> rfl
  | x :: l, 0, 0 => rfl
  | x :: l, 0, j + 1 => rfl
  | x :: l, i + 1, 0 => rfl
  | x :: l, i + 1, j + 1 => by
    show gl (kl l i) j = _
    rw [gl_kl l i j]
    by_cases h : j = i
    · rw [if_pos h, if_pos (by omega)]
    · rw [if_neg h, if_neg (by omega)]
      rfl
/-- is the local in front of this one no long -/
def nJ (lv : List (Option tV)) (i : Nat) : Prop := ∀ j v, j + 1 = i → gl lv j = some v → tcat v = 1
def tRl (lv : List (Option tV)) : Prop := ∀ i v, gl lv i = some v → tR v
def tRs (st : List tV) : Prop := ∀ v ∈ st, tR v
def Tj (M : MI) (pc : Nat) (lv : List (Option tV)) (st : List tV) (m : tM) (P : Option tV → tM → Prop) : Prop :=
  ∀ (p : Program) (l : Launch) (e : Env) (s : State) (mid : MethodId) (args : Array Value) (below : List Frame) (meth : Method) (c : Code) (H : Heap) (locs : List Loc) (D : va_G) (cA : Nat → ClassId) (ρ : Nat → Nat) (ls : Array Slot),
    CX M p s mid args meth c D cA ρ → tRl lv → tRs st → M32 m → va_P D vwCl (twd cA ρ m) H → va_S (tA ρ) s.heap H locs → tL ρ ls M.2.2.1 lv →
    W p l e (trm M) s mid args below meth c H locs 0 0 (MQ below (tQ D cA ρ P) args s 0 0 (tA ρ)) (F0 mid pc ls (st.map (rv ρ)))
theorem tRs_nil : tRs [] := fun _ h => by cases h
theorem tRs_cons {v : tV} {st : List tV} (h1 : tR v) (h2 : tRs st) : tRs (v :: st) := fun w hw => by
  rcases List.mem_cons.mp hw with rfl | hw
  · exact h1
  · exact h2 w hw
theorem tRs_hd {v : tV} {st : List tV} (h : tRs (v :: st)) : tR v := h v List.mem_cons_self
theorem tRs_tl {v : tV} {st : List tV} (h : tRs (v :: st)) : tRs st := fun w hw => h w (List.mem_cons_of_mem _ hw)
theorem tRl_sl {lv : List (Option tV)} {i : Nat} {v : tV} (h : tRl lv) (hv : tR v) : tRl (sl lv i v) := fun j w hj => by
  rw [gl_sl] at hj
  by_cases e : j = i
  · rw [if_pos e] at hj
    cases hj
    exact hv
  · rw [if_neg e] at hj
    exact h j w hj
/-- what is in range may be known -/
theorem Tj.rl {M : MI} {pc : Nat} {lv : List (Option tV)} {st : List tV} {m : tM} {P : Option tV → tM → Prop} (i : Nat) {n : Int} (h : gl lv i = some (iV n)) (k : R32 n → Tj M pc lv st m P) : Tj M pc lv st m P := by
  intro p l e s mid args below meth c H locs D cA ρ ls X h1 h2 h3 hP hS hl
  exact k (h1 i _ h) p l e s mid args below meth c H locs D cA ρ ls X h1 h2 h3 hP hS hl
theorem Tj.rs {M : MI} {pc : Nat} {lv : List (Option tV)} {st : List tV} {m : tM} {P : Option tV → tM → Prop} {n : Int} (h : iV n ∈ st) (k : R32 n → Tj M pc lv st m P) : Tj M pc lv st m P := by
  intro p l e s mid args below meth c H locs D cA ρ ls X h1 h2 h3 hP hS hl
  exact k (h2 _ h) p l e s mid args below meth c H locs D cA ρ ls X h1 h2 h3 hP hS hl
theorem Tj.rm {M : MI} {pc : Nat} {lv : List (Option tV)} {st : List tV} {m : tM} {P : Option tV → tM → Prop} (k : M32 m → Tj M pc lv st m P) : Tj M pc lv st m P := by
  intro p l e s mid args below meth c H locs D cA ρ ls X h1 h2 h3 hP hS hl
  exact k h3 p l e s mid args below meth c H locs D cA ρ ls X h1 h2 h3 hP hS hl
theorem Tj.mono {M : MI} {pc : Nat} {lv : List (Option tV)} {st : List tV} {m : tM} {P P' : Option tV → tM → Prop} (h : Tj M pc lv st m P) (hp : ∀ r m, P r m → P' r m) : Tj M pc lv st m P' := by
  intro p l e s mid args below meth c H locs D cA ρ ls X h1 h2 h3 hP hS hl T hT hX
  obtain ⟨t, a, o, b1, b2, ⟨⟨r, m', e1, e2, e3⟩, e4⟩, b4⟩ := h p l e s mid args below meth c H locs D cA ρ ls X h1 h2 h3 hP hS hl T hT hX
  exact ⟨t, a, o, b1, b2, ⟨⟨r, m', e1, hp r m' e2, e3⟩, e4⟩, b4⟩
/-- fewer locals -/
theorem Tj.lv {M : MI} {pc : Nat} {lv lv' : List (Option tV)} {st : List tV} {m : tM} {P : Option tV → tM → Prop} (h : ∀ i v, gl lv' i = some v → gl lv i = some v) (k : Tj M pc lv' st m P) : Tj M pc lv st m P := by
  intro p l e s mid args below meth c H locs D cA ρ ls X h1 h2 h3 hP hS hl
  exact k p l e s mid args below meth c H locs D cA ρ ls X (fun i v hv => h1 i v (h i v hv)) h2 h3 hP hS ⟨hl.1, hl.2.1, fun i v hv => hl.2.2 i v (h i v hv)⟩
/-- an instruction that works on the stack alone -/
theorem Tj.op {M : MI} {pc pc' : Nat} {lv : List (Option tV)} {st st' : List tV} {m : tM} {P : Option tV → tM → Prop} (k : Tj M pc' lv st' m P) (hr : tRs st → tRs st')
    (h : ∀ (p : Program) (l : Launch) (e : Env) (R : Room) (s : State) (mid : MethodId) (args : Array Value) (below : List Frame) (meth : Method) (c : Code) (H : Heap) (locs : List Loc) (Q : State → Prop) (ls : Array Slot) (ρ : Nat → Nat), p.tables.exec = Jvm.exec → c.code = M.2.1 → s.vm.findClass M.1.cls = some mid.cls → (∀ w ∈ lw_tbl, w.before args s = true) → tRs st →
      W p l e R s mid args below meth c H locs 0 0 Q (F0 mid pc' ls (st'.map (rv ρ))) → W p l e R s mid args below meth c H locs 0 0 Q (F0 mid pc ls (st.map (rv ρ)))) : Tj M pc lv st m P := by
  intro p l e s mid args below meth c H locs D cA ρ ls X h1 h2 h3 hP hS hl
  exact h p l e (trm M) s mid args below meth c H locs _ ls ρ X.1 X.2.1 X.2.2.2.2.1 X.2.2.2.2.2.1 h2 (k p l e s mid args below meth c H locs D cA ρ ls X h1 (hr h2) h3 hP hS hl)
end
section
/-! a row for each instruction -/
def nJb (lv : List (Option tV)) : Nat → Bool
  | 0 => true
  | j + 1 => match gl lv j with
    | some v => tcat v == 1
    | none => true
theorem nJb_ok {lv : List (Option tV)} {i j : Nat} {v : tV} (h : nJb lv i = true) (hj : j + 1 = i) (hv : gl lv j = some v) : tcat v = 1 := by
  subst hj
  simp only [nJb, hv] at h
  simpa using h
def bAnd (a b : Int) : Int := (Int32.ofInt a &&& Int32.ofInt b).toInt
def bOr (a b : Int) : Int := (Int32.ofInt a ||| Int32.ofInt b).toInt
def bXor (a b : Int) : Int := (Int32.ofInt a ^^^ Int32.ofInt b).toInt
def bShl (a b : Int) : Int := (Int32.ofInt a <<< (Int32.ofInt b &&& 31)).toInt
def bShr (a b : Int) : Int := (Int32.ofInt a >>> (Int32.ofInt b &&& 31)).toInt
def bUshr (a b : Int) : Int := ((Int32.ofInt a).toUInt32 >>> ((Int32.ofInt b).toUInt32 &&& Int32.toUInt32 31)).toInt32.toInt
def lcI (x y : Int64) : Int := if x < y then -1 else if x = y then 0 else 1
theorem lcI_ok (x y : Int64) : lg_cmp x y = Int32.ofInt (lcI x y) := by
  unfold lg_cmp lcI
  by_cases h1 : x < y
  · have h2 : ¬ x > y := fun h => by rw [gt_iff_lt, Int64.lt_iff_toInt_lt] at h; rw [Int64.lt_iff_toInt_lt] at h1; omega
    have h3 : ¬ x = y := fun h => by subst h; rw [Int64.lt_iff_toInt_lt] at h1; omega
    rw [if_neg h2, if_neg h3, if_pos h1]; decide +kernel
  · by_cases h3 : x = y
    · subst h3
      rw [if_neg h1, if_pos rfl, if_pos rfl, if_neg h1]; decide +kernel
    · have h2 : x > y := by
        rw [gt_iff_lt, Int64.lt_iff_toInt_lt]
        rw [Int64.lt_iff_toInt_lt] at h1
        have h4 : x.toInt ≠ y.toInt := fun h => h3 (Int64.toInt_inj.mp h)
        omega
      rw [if_pos h2, if_neg h1, if_neg h3]; decide +kernel
theorem lcI_r (x y : Int64) : R32 (lcI x y) := by
  unfold lcI
  split
  · decide
  · split <;> decide
theorem ti_div {x y : Int} (hx : R32 x) (h0 : 0 ≤ x) (hy : R32 y) (h1 : 0 < y) : Int32.ofInt x / Int32.ofInt y = Int32.ofInt (x / y) := by
  rw [← Int32.toInt_inj]
  have hne : Int32.ofInt y ≠ -1 := by
    intro h
    have := congrArg Int32.toInt h
    rw [ti hy] at this
    have e : (-1 : Int32).toInt = -1 := by decide +kernel
    omega
  have hb : x / y ≤ x := Int.ediv_le_self y h0
  have hb0 : 0 ≤ x / y := Int.ediv_nonneg h0 (by omega)
  rw [Int32.toInt_div_of_ne_right _ _ hne, ti hx, ti hy, ti (by constructor <;> omega), Int.tdiv_eq_ediv_of_nonneg h0]
theorem ti_i2l {x : Int} (hx : R32 x) : (Int32.ofInt x).toInt64 = Int64.ofInt x := by
  rw [← Int64.toInt_inj, Int32.toInt_toInt64, ti hx, Int64.toInt_ofInt_of_le (by omega) (by omega)]
theorem Tj.iconst {M : MI} {pc pc' : Nat} {lv : List (Option tV)} {st : List tV} {m : tM} {P : Option tV → tM → Prop} {n : Int} (d : decode M.2.1 pc = .ok (.iconst n, 1)) (hr : R32 n) (hp : pc + 1 = pc') (k : Tj M pc' lv (iV n :: st) m P) : Tj M pc lv st m P := by
  subst hp
  exact Tj.op k (fun h => tRs_cons hr h) (fun p l e R s mid args below meth c H locs Q ls ρ hx hb hown hts hR kk => lv_iconst hx hb d rfl kk)
theorem Tj.bipush {M : MI} {pc pc' : Nat} {lv : List (Option tV)} {st : List tV} {m : tM} {P : Option tV → tM → Prop} {n : Int} (d : decode M.2.1 pc = .ok (.bipush n, 2)) (hr : R32 n) (hv : (Int8.ofInt n).toInt32 = Int32.ofInt n) (hp : pc + 2 = pc') (k : Tj M pc' lv (iV n :: st) m P) : Tj M pc lv st m P := by
  subst hp
  exact Tj.op k (fun h => tRs_cons hr h) (fun p l e R s mid args below meth c H locs Q ls ρ hx hb hown hts hR kk => lv_bipush hx hb d hv kk)
theorem Tj.sipush {M : MI} {pc pc' : Nat} {lv : List (Option tV)} {st : List tV} {m : tM} {P : Option tV → tM → Prop} {n : Int} (d : decode M.2.1 pc = .ok (.sipush n, 3)) (hr : R32 n) (hv : (Int16.ofInt n).toInt32 = Int32.ofInt n) (hp : pc + 3 = pc') (k : Tj M pc' lv (iV n :: st) m P) : Tj M pc lv st m P := by
  subst hp
  exact Tj.op k (fun h => tRs_cons hr h) (fun p l e R s mid args below meth c H locs Q ls ρ hx hb hown hts hR kk => lv_sipush hx hb d hv kk)
theorem Tj.ldc {M : MI} {pc pc' : Nat} {lv : List (Option tV)} {st : List tV} {m : tM} {P : Option tV → tM → Prop} {n : Int} {idx : Nat} (d : decode M.2.1 pc = .ok (.ldc idx, 2)) (hm : Cond.constant M.1.cls idx (Int32.ofInt n) ∈ lw_tbl) (hr : R32 n) (hp : pc + 2 = pc') (k : Tj M pc' lv (iV n :: st) m P) : Tj M pc lv st m P := by
  subst hp
  exact Tj.op k (fun h => tRs_cons hr h) (fun p l e R s mid args below meth c H locs Q ls ρ hx hb hown hts hR kk => lv_ldc hx hb hown (hts _ hm) d kk)
theorem Tj.ldc_w {M : MI} {pc pc' : Nat} {lv : List (Option tV)} {st : List tV} {m : tM} {P : Option tV → tM → Prop} {n : Int} {idx : Nat} (d : decode M.2.1 pc = .ok (.ldc_w idx, 3)) (hm : Cond.constant M.1.cls idx (Int32.ofInt n) ∈ lw_tbl) (hr : R32 n) (hp : pc + 3 = pc') (k : Tj M pc' lv (iV n :: st) m P) : Tj M pc lv st m P := by
  subst hp
  exact Tj.op k (fun h => tRs_cons hr h) (fun p l e R s mid args below meth c H locs Q ls ρ hx hb hown hts hR kk => lv_ldcw hx hb hown (hts _ hm) d kk)
theorem Tj.ldc2_w {M : MI} {pc pc' : Nat} {lv : List (Option tV)} {st : List tV} {m : tM} {P : Option tV → tM → Prop} {v : Int64} {idx : Nat} (d : decode M.2.1 pc = .ok (.ldc2_w idx, 3)) (hm : Cond.constantLong M.1.cls idx v ∈ lw_tbl) (hp : pc + 3 = pc') (k : Tj M pc' lv (lV v :: st) m P) : Tj M pc lv st m P := by
  subst hp
  exact Tj.op k (fun h => tRs_cons trivial h) (fun p l e R s mid args below meth c H locs Q ls ρ hx hb hown hts hR kk => lv_ldc2 hx hb hown (hts _ hm) d kk)
theorem Tj.lconst {M : MI} {pc pc' : Nat} {lv : List (Option tV)} {st : List tV} {m : tM} {P : Option tV → tM → Prop} {n : Fin 2} {v : Int64} (d : decode M.2.1 pc = .ok (.lconst n, 1)) (hv : Int64.ofNat (n : Nat) = v) (hp : pc + 1 = pc') (k : Tj M pc' lv (lV v :: st) m P) : Tj M pc lv st m P := by
  subst hp
  exact Tj.op k (fun h => tRs_cons trivial h) (fun p l e R s mid args below meth c H locs Q ls ρ hx hb hown hts hR kk => lv_lconst hx hb d hv kk)
theorem Tj.iload_n {M : MI} {pc pc' : Nat} {lv : List (Option tV)} {st : List tV} {m : tM} {P : Option tV → tM → Prop} {i : Fin 4} {n : Int} (d : decode M.2.1 pc = .ok (.iload_n i, 1)) (hv : gl lv (i : Nat) = some (iV n)) (hp : pc + 1 = pc') (k : Tj M pc' lv (iV n :: st) m P) : Tj M pc lv st m P := by
  subst hp
  intro p l e s mid args below meth c H locs D cA ρ ls X h1 h2 h3 hP hS hl
  exact lv_iload_n X.1 X.2.1 d rfl (hl.2.2 _ _ hv) (k p l e s mid args below meth c H locs D cA ρ ls X h1 (tRs_cons (h1 _ _ hv) h2) h3 hP hS hl)
theorem Tj.iload {M : MI} {pc pc' : Nat} {lv : List (Option tV)} {st : List tV} {m : tM} {P : Option tV → tM → Prop} {i : Nat} {n : Int} (d : decode M.2.1 pc = .ok (.iload i, 2)) (hv : gl lv i = some (iV n)) (hp : pc + 2 = pc') (k : Tj M pc' lv (iV n :: st) m P) : Tj M pc lv st m P := by
  subst hp
  intro p l e s mid args below meth c H locs D cA ρ ls X h1 h2 h3 hP hS hl
  exact lv_iload X.1 X.2.1 d (hl.2.2 _ _ hv) (k p l e s mid args below meth c H locs D cA ρ ls X h1 (tRs_cons (h1 _ _ hv) h2) h3 hP hS hl)
theorem Tj.lload_n {M : MI} {pc pc' : Nat} {lv : List (Option tV)} {st : List tV} {m : tM} {P : Option tV → tM → Prop} {i : Fin 4} {x : Int64} (d : decode M.2.1 pc = .ok (.lload_n i, 1)) (hv : gl lv (i : Nat) = some (lV x)) (hp : pc + 1 = pc') (k : Tj M pc' lv (lV x :: st) m P) : Tj M pc lv st m P := by
  subst hp
  intro p l e s mid args below meth c H locs D cA ρ ls X h1 h2 h3 hP hS hl
  exact lv_lload_n X.1 X.2.1 d rfl (hl.2.2 _ _ hv) (k p l e s mid args below meth c H locs D cA ρ ls X h1 (tRs_cons trivial h2) h3 hP hS hl)
theorem Tj.lload {M : MI} {pc pc' : Nat} {lv : List (Option tV)} {st : List tV} {m : tM} {P : Option tV → tM → Prop} {i : Nat} {x : Int64} (d : decode M.2.1 pc = .ok (.lload i, 2)) (hv : gl lv i = some (lV x)) (hp : pc + 2 = pc') (k : Tj M pc' lv (lV x :: st) m P) : Tj M pc lv st m P := by
  subst hp
  intro p l e s mid args below meth c H locs D cA ρ ls X h1 h2 h3 hP hS hl
  exact lv_lload X.1 X.2.1 d (hl.2.2 _ _ hv) (k p l e s mid args below meth c H locs D cA ρ ls X h1 (tRs_cons trivial h2) h3 hP hS hl)
theorem Tj.aload_n {M : MI} {pc pc' : Nat} {lv : List (Option tV)} {st : List tV} {m : tM} {P : Option tV → tM → Prop} {i : Fin 4} {a : Nat} (d : decode M.2.1 pc = .ok (.aload_n i, 1)) (hv : gl lv (i : Nat) = some (rV a)) (hp : pc + 1 = pc') (k : Tj M pc' lv (rV a :: st) m P) : Tj M pc lv st m P := by
  subst hp
  intro p l e s mid args below meth c H locs D cA ρ ls X h1 h2 h3 hP hS hl
  exact lv_aload_n X.1 X.2.1 d rfl (hl.2.2 _ _ hv) (k p l e s mid args below meth c H locs D cA ρ ls X h1 (tRs_cons trivial h2) h3 hP hS hl)
theorem Tj.aload {M : MI} {pc pc' : Nat} {lv : List (Option tV)} {st : List tV} {m : tM} {P : Option tV → tM → Prop} {i : Nat} {a : Nat} (d : decode M.2.1 pc = .ok (.aload i, 2)) (hv : gl lv i = some (rV a)) (hp : pc + 2 = pc') (k : Tj M pc' lv (rV a :: st) m P) : Tj M pc lv st m P := by
  subst hp
  intro p l e s mid args below meth c H locs D cA ρ ls X h1 h2 h3 hP hS hl
  exact lv_aload X.1 X.2.1 d (hl.2.2 _ _ hv) (k p l e s mid args below meth c H locs D cA ρ ls X h1 (tRs_cons trivial h2) h3 hP hS hl)
def al : Nat → List (Option tV) → List (Nat × tV)
  | _, [] => []
  | i, none :: l => al (i + 1) l
  | i, some v :: l => (i, v) :: al (i + 1) l
theorem al_mem : ∀ (lv : List (Option tV)) (k i : Nat) (v : tV), gl lv i = some v ↔ (k + i, v) ∈ al k lv
  | [], k, i, v => by simp [gl, al]
  | none :: l, k, 0, v => by
    have h : ∀ (l : List (Option tV)) (a b : Nat) (v : tV), a < b → (a, v) ∉ al b l := by
      intro l
      induction l with
      | nil => intro a b v _ h; simp [al] at h
      | cons x l ih =>
        intro a b v hab h
        cases x with
        | none => exact ih a (b + 1) v (by omega) h
        | some w =>
          rcases List.mem_cons.mp h with h | h
          · cases h; omega
          · exact ih a (b + 1) v (by omega) h
    constructor
    · intro h; cases h
    · intro h2; exact absurd h2 (h l (k + 0) (k + 1) v (by omega))
  | some w :: l, k, 0, v => by
    have h : ∀ (l : List (Option tV)) (a b : Nat) (v : tV), a < b → (a, v) ∉ al b l := by
      intro l
      induction l with
      | nil => intro a b v _ h; simp [al] at h
      | cons x l ih =>
        intro a b v hab h
        cases x with
        | none => exact ih a (b + 1) v (by omega) h
        | some w =>
          rcases List.mem_cons.mp h with h | h
          · cases h; omega
          · exact ih a (b + 1) v (by omega) h
    constructor
    · intro h; cases h; exact List.mem_cons_self
    · intro h2
      rcases List.mem_cons.mp h2 with h2 | h2
      · cases h2; rfl
      · exact absurd h2 (h l (k + 0) (k + 1) v (by omega))
  | none :: l, k, i + 1, v => by
    show gl l i = some v ↔ (k + (i + 1), v) ∈ al (k + 1) l
    rw [al_mem l (k + 1) i v, show k + 1 + i = k + (i + 1) by omega]
  | some w :: l, k, i + 1, v => by
    show gl l i = some v ↔ (k + (i + 1), v) ∈ (k, w) :: al (k + 1) l
    rw [al_mem l (k + 1) i v, show k + 1 + i = k + (i + 1) by omega, List.mem_cons]
    constructor
    · exact Or.inr
    · rintro (h | h)
      · cases h
      · exact h
def alr (ρ : Nat → Nat) (lv : List (Option tV)) : List (Nat × Value) := (al 0 lv).map (fun q => (q.1, rv ρ q.2))
theorem tL_has {ρ : Nat → Nat} {ls : Array Slot} {n : Nat} {lv : List (Option tV)} (h : tL ρ ls n lv) : lv_has ls n (alr ρ lv) := by
  refine ⟨h.1, h.2.1, fun q hq => ?_⟩
  obtain ⟨⟨i, v⟩, h1, rfl⟩ := List.mem_map.mp hq
  exact h.2.2 i v ((al_mem lv 0 i v).mpr (by rw [Nat.zero_add]; exact h1))
theorem alr_mem {ρ : Nat → Nat} {lv : List (Option tV)} {i : Nat} {v : tV} (h : gl lv i = some v) : (i, rv ρ v) ∈ alr ρ lv := by
  have := (al_mem lv 0 i v).mp h
  rw [Nat.zero_add] at this
  exact List.mem_map.mpr ⟨(i, v), this, rfl⟩
theorem tL_s1 {ρ : Nat → Nat} {ls' : Array Slot} {n i : Nat} {lv : List (Option tV)} {v : tV} (hj : nJb lv i = true)
    (h : lv_has ls' n ((i, rv ρ v) :: (alr ρ lv).filter (fun q => !(q.1 == i) && !(q.1 + 1 == i && q.2.category == 2)))) : tL ρ ls' n (sl lv i v) := by
  refine ⟨h.1, h.2.1, fun j w hw => ?_⟩
  rw [gl_sl] at hw
  by_cases e : j = i
  · rw [if_pos e] at hw
    cases hw
    rw [e]
    exact h.2.2 _ List.mem_cons_self
  · rw [if_neg e] at hw
    refine h.2.2 (j, rv ρ w) (List.mem_cons_of_mem _ (List.mem_filter.mpr ⟨alr_mem hw, ?_⟩))
    show (!(j == i) && !(j + 1 == i && (rv ρ w).category == 2)) = true
    rw [tcat_eq]
    by_cases e2 : j + 1 = i
    · rw [nJb_ok hj e2 hw]
      simp [e]
    · simp [e, e2]
theorem tL_s2 {ρ : Nat → Nat} {ls' : Array Slot} {n i : Nat} {lv : List (Option tV)} {v : tV} (hj : nJb lv i = true)
    (h : lv_has ls' n ((i, rv ρ v) :: (alr ρ lv).filter (fun q => !(q.1 == i) && (!(q.1 == i + 1) && !(q.1 + 1 == i && q.2.category == 2))))) : tL ρ ls' n (kl (sl lv i v) (i + 1)) := by
  refine ⟨h.1, h.2.1, fun j w hw => ?_⟩
  rw [gl_kl] at hw
  by_cases e0 : j = i + 1
  · rw [if_pos e0] at hw
    cases hw
  rw [if_neg e0, gl_sl] at hw
  by_cases e : j = i
  · rw [if_pos e] at hw
    cases hw
    rw [e]
    exact h.2.2 _ List.mem_cons_self
  · rw [if_neg e] at hw
    refine h.2.2 (j, rv ρ w) (List.mem_cons_of_mem _ (List.mem_filter.mpr ⟨alr_mem hw, ?_⟩))
    show (!(j == i) && (!(j == i + 1) && !(j + 1 == i && (rv ρ w).category == 2))) = true
    rw [tcat_eq]
    by_cases e2 : j + 1 = i
    · rw [nJb_ok hj e2 hw]
      simp [e, e0]
    · simp [e, e0, e2]
theorem tRl_kl {lv : List (Option tV)} {i : Nat} (h : tRl lv) : tRl (kl lv i) := fun j w hj => by
  rw [gl_kl] at hj
  by_cases e : j = i
  · rw [if_pos e] at hj; cases hj
  · rw [if_neg e] at hj; exact h j w hj
theorem Tj.istore_n {M : MI} {pc pc' : Nat} {lv : List (Option tV)} {st : List tV} {m : tM} {P : Option tV → tM → Prop} {i : Fin 4} {n : Int} (d : decode M.2.1 pc = .ok (.istore_n i, 1)) (hi : (i : Nat) < M.2.2.1) (hj : nJb lv (i : Nat) = true) (hp : pc + 1 = pc') (k : Tj M pc' (sl lv (i : Nat) (iV n)) st m P) : Tj M pc lv (iV n :: st) m P := by
  subst hp
  intro p l e s mid args below meth c H locs D cA ρ ls X h1 h2 h3 hP hS hl
  exact lv_istore_n X.1 X.2.1 d rfl (tL_has hl) hi rfl (fun ls' hl' => k p l e s mid args below meth c H locs D cA ρ ls' X (tRl_sl h1 (tRs_hd h2)) (tRs_tl h2) h3 hP hS (tL_s1 hj hl'))
theorem Tj.istore {M : MI} {pc pc' : Nat} {lv : List (Option tV)} {st : List tV} {m : tM} {P : Option tV → tM → Prop} {i : Nat} {n : Int} (d : decode M.2.1 pc = .ok (.istore i, 2)) (hi : i < M.2.2.1) (hj : nJb lv i = true) (hp : pc + 2 = pc') (k : Tj M pc' (sl lv i (iV n)) st m P) : Tj M pc lv (iV n :: st) m P := by
  subst hp
  intro p l e s mid args below meth c H locs D cA ρ ls X h1 h2 h3 hP hS hl
  exact lv_istore X.1 X.2.1 d (tL_has hl) hi rfl (fun ls' hl' => k p l e s mid args below meth c H locs D cA ρ ls' X (tRl_sl h1 (tRs_hd h2)) (tRs_tl h2) h3 hP hS (tL_s1 hj hl'))
theorem Tj.astore_n {M : MI} {pc pc' : Nat} {lv : List (Option tV)} {st : List tV} {m : tM} {P : Option tV → tM → Prop} {i : Fin 4} {a : Nat} (d : decode M.2.1 pc = .ok (.astore_n i, 1)) (hi : (i : Nat) < M.2.2.1) (hj : nJb lv (i : Nat) = true) (hp : pc + 1 = pc') (k : Tj M pc' (sl lv (i : Nat) (rV a)) st m P) : Tj M pc lv (rV a :: st) m P := by
  subst hp
  intro p l e s mid args below meth c H locs D cA ρ ls X h1 h2 h3 hP hS hl
  exact lv_astore_n X.1 X.2.1 d rfl (tL_has hl) hi rfl (fun ls' hl' => k p l e s mid args below meth c H locs D cA ρ ls' X (tRl_sl h1 (tRs_hd h2)) (tRs_tl h2) h3 hP hS (tL_s1 hj hl'))
theorem Tj.astore {M : MI} {pc pc' : Nat} {lv : List (Option tV)} {st : List tV} {m : tM} {P : Option tV → tM → Prop} {i : Nat} {a : Nat} (d : decode M.2.1 pc = .ok (.astore i, 2)) (hi : i < M.2.2.1) (hj : nJb lv i = true) (hp : pc + 2 = pc') (k : Tj M pc' (sl lv i (rV a)) st m P) : Tj M pc lv (rV a :: st) m P := by
  subst hp
  intro p l e s mid args below meth c H locs D cA ρ ls X h1 h2 h3 hP hS hl
  exact lv_astore X.1 X.2.1 d (tL_has hl) hi rfl (fun ls' hl' => k p l e s mid args below meth c H locs D cA ρ ls' X (tRl_sl h1 (tRs_hd h2)) (tRs_tl h2) h3 hP hS (tL_s1 hj hl'))
theorem Tj.lstore_n {M : MI} {pc pc' : Nat} {lv : List (Option tV)} {st : List tV} {m : tM} {P : Option tV → tM → Prop} {i : Fin 4} {x : Int64} (d : decode M.2.1 pc = .ok (.lstore_n i, 1)) (hi : (i : Nat) + 1 < M.2.2.1) (hj : nJb lv (i : Nat) = true) (hp : pc + 1 = pc') (k : Tj M pc' (kl (sl lv (i : Nat) (lV x)) ((i : Nat) + 1)) st m P) : Tj M pc lv (lV x :: st) m P := by
  subst hp
  intro p l e s mid args below meth c H locs D cA ρ ls X h1 h2 h3 hP hS hl
  exact lv_lstore_n X.1 X.2.1 d rfl (tL_has hl) hi rfl (fun ls' hl' => k p l e s mid args below meth c H locs D cA ρ ls' X (tRl_kl (tRl_sl h1 trivial)) (tRs_tl h2) h3 hP hS (tL_s2 hj hl'))
theorem Tj.lstore {M : MI} {pc pc' : Nat} {lv : List (Option tV)} {st : List tV} {m : tM} {P : Option tV → tM → Prop} {i : Nat} {x : Int64} (d : decode M.2.1 pc = .ok (.lstore i, 2)) (hi : i + 1 < M.2.2.1) (hj : nJb lv i = true) (hp : pc + 2 = pc') (k : Tj M pc' (kl (sl lv i (lV x)) (i + 1)) st m P) : Tj M pc lv (lV x :: st) m P := by
  subst hp
  intro p l e s mid args below meth c H locs D cA ρ ls X h1 h2 h3 hP hS hl
  exact lv_lstore X.1 X.2.1 d (tL_has hl) hi rfl (fun ls' hl' => k p l e s mid args below meth c H locs D cA ρ ls' X (tRl_kl (tRl_sl h1 trivial)) (tRs_tl h2) h3 hP hS (tL_s2 hj hl'))
theorem Tj.iinc {M : MI} {pc pc' : Nat} {lv : List (Option tV)} {st : List tV} {m : tM} {P : Option tV → tM → Prop} {i : Nat} {n z : Int} (d : decode M.2.1 pc = .ok (.iinc i z, 3)) (hv : gl lv i = some (iV n)) (hi : i < M.2.2.1) (hj : nJb lv i = true) (hr : R32 (n + z)) (hp : pc + 3 = pc') (k : Tj M pc' (sl lv i (iV (n + z))) st m P) : Tj M pc lv st m P := by
  subst hp
  intro p l e s mid args below meth c H locs D cA ρ ls X h1 h2 h3 hP hS hl
  obtain ⟨q, hq⟩ := List.getElem?_of_mem (alr_mem (ρ := ρ) hv)
  exact lv_iinc X.1 X.2.1 d (tL_has hl) hq (v := Int32.ofInt (n + z)) (by rw [Int32.ofInt_add]) hi rfl (fun ls' hl' => k p l e s mid args below meth c H locs D cA ρ ls' X (tRl_sl h1 hr) h2 h3 hP hS (tL_s1 (v := iV (n + z)) hj hl'))
theorem Tj.iadd {M : MI} {pc pc' : Nat} {lv : List (Option tV)} {st : List tV} {m : tM} {P : Option tV → tM → Prop} {a b : Int} (d : decode M.2.1 pc = .ok (.iadd, 1)) (hr : R32 (a + b)) (hp : pc + 1 = pc') (k : Tj M pc' lv (iV (a + b) :: st) m P) : Tj M pc lv (iV b :: iV a :: st) m P := by
  subst hp
  exact Tj.op k (fun h => tRs_cons hr (tRs_tl (tRs_tl h))) (fun p l e R s mid args below meth c H locs Q ls ρ hx hb hown hts hR kk => lv_iadd hx hb d (by rw [← Int32.ofInt_add]; exact kk))
theorem Tj.isub {M : MI} {pc pc' : Nat} {lv : List (Option tV)} {st : List tV} {m : tM} {P : Option tV → tM → Prop} {a b : Int} (d : decode M.2.1 pc = .ok (.isub, 1)) (hr : R32 (a - b)) (hp : pc + 1 = pc') (k : Tj M pc' lv (iV (a - b) :: st) m P) : Tj M pc lv (iV b :: iV a :: st) m P := by
  subst hp
  exact Tj.op k (fun h => tRs_cons hr (tRs_tl (tRs_tl h))) (fun p l e R s mid args below meth c H locs Q ls ρ hx hb hown hts hR kk => lv_isub hx hb d (by rw [← Int32.ofInt_sub]; exact kk))
theorem Tj.imul {M : MI} {pc pc' : Nat} {lv : List (Option tV)} {st : List tV} {m : tM} {P : Option tV → tM → Prop} {a b : Int} (d : decode M.2.1 pc = .ok (.imul, 1)) (hr : R32 (a * b)) (hp : pc + 1 = pc') (k : Tj M pc' lv (iV (a * b) :: st) m P) : Tj M pc lv (iV b :: iV a :: st) m P := by
  subst hp
  exact Tj.op k (fun h => tRs_cons hr (tRs_tl (tRs_tl h))) (fun p l e R s mid args below meth c H locs Q ls ρ hx hb hown hts hR kk => lv_imul hx hb d (by rw [← Int32.ofInt_mul]; exact kk))
theorem Tj.ineg {M : MI} {pc pc' : Nat} {lv : List (Option tV)} {st : List tV} {m : tM} {P : Option tV → tM → Prop} {a : Int} (d : decode M.2.1 pc = .ok (.ineg, 1)) (hr : R32 (-a)) (hp : pc + 1 = pc') (k : Tj M pc' lv (iV (-a) :: st) m P) : Tj M pc lv (iV a :: st) m P := by
  subst hp
  exact Tj.op k (fun h => tRs_cons hr (tRs_tl h)) (fun p l e R s mid args below meth c H locs Q ls ρ hx hb hown hts hR kk => lv_ineg hx hb d (by rw [← Int32.ofInt_neg]; exact kk))
theorem Tj.idiv {M : MI} {pc pc' : Nat} {lv : List (Option tV)} {st : List tV} {m : tM} {P : Option tV → tM → Prop} {a b : Int} (d : decode M.2.1 pc = .ok (.idiv, 1)) (ha : 0 ≤ a) (h1 : 0 < b) (hp : pc + 1 = pc') (k : Tj M pc' lv (iV (a / b) :: st) m P) : Tj M pc lv (iV b :: iV a :: st) m P := by
  subst hp
  refine Tj.op k (fun h => tRs_cons ?_ (tRs_tl (tRs_tl h))) (fun p l e R s mid args below meth c H locs Q ls ρ hx hb hown hts hR kk => lv_idiv hx hb d (fun h => ?_) (by rw [ti_div (tRs_hd (tRs_tl hR)) ha (tRs_hd hR) h1]; exact kk))
  · have h2 : R32 a := tRs_hd (tRs_tl h)
    have hb : a / b ≤ a := Int.ediv_le_self b ha
    have hb0 : 0 ≤ a / b := Int.ediv_nonneg ha (by omega)
    exact ⟨by omega, by omega⟩
  · have h2 : R32 b := tRs_hd hR
    rw [← ti_0, ti_inj h2 (by decide)] at h
    omega
theorem Tj.irem {M : MI} {pc pc' : Nat} {lv : List (Option tV)} {st : List tV} {m : tM} {P : Option tV → tM → Prop} {a b : Int} (d : decode M.2.1 pc = .ok (.irem, 1)) (ha : 0 ≤ a) (h1 : 0 < b) (hp : pc + 1 = pc') (k : Tj M pc' lv (iV (a % b) :: st) m P) : Tj M pc lv (iV b :: iV a :: st) m P := by
  subst hp
  have he : a % b = a - a / b * b := by rw [Int.emod_def, Int.mul_comm]
  refine Tj.op k (fun h => tRs_cons ?_ (tRs_tl (tRs_tl h))) (fun p l e R s mid args below meth c H locs Q ls ρ hx hb hown hts hR kk => lv_irem hx hb d (fun h => ?_) (by rw [ti_div (tRs_hd (tRs_tl hR)) ha (tRs_hd hR) h1, ← Int32.ofInt_mul, ← Int32.ofInt_sub, ← he]; exact kk))
  · have h2 : R32 b := tRs_hd h
    have hb : a % b < b := Int.emod_lt_of_pos a h1
    have hb0 : 0 ≤ a % b := Int.emod_nonneg a (by omega)
    exact ⟨by omega, by omega⟩
  · have h2 : R32 b := tRs_hd hR
    rw [← ti_0, ti_inj h2 (by decide)] at h
    omega
theorem Tj.iand {M : MI} {pc pc' : Nat} {lv : List (Option tV)} {st : List tV} {m : tM} {P : Option tV → tM → Prop} {a b : Int} (d : decode M.2.1 pc = .ok (.iand, 1)) (hp : pc + 1 = pc') (k : Tj M pc' lv (iV (bAnd a b) :: st) m P) : Tj M pc lv (iV b :: iV a :: st) m P := by
  subst hp
  exact Tj.op k (fun h => tRs_cons (tr_of _) (tRs_tl (tRs_tl h))) (fun p l e R s mid args below meth c H locs Q ls ρ hx hb hown hts hR kk => lv_iand hx hb d (by rw [← ti_of (Int32.ofInt a &&& Int32.ofInt b)]; exact kk))
theorem Tj.ior {M : MI} {pc pc' : Nat} {lv : List (Option tV)} {st : List tV} {m : tM} {P : Option tV → tM → Prop} {a b : Int} (d : decode M.2.1 pc = .ok (.ior, 1)) (hp : pc + 1 = pc') (k : Tj M pc' lv (iV (bOr a b) :: st) m P) : Tj M pc lv (iV b :: iV a :: st) m P := by
  subst hp
  exact Tj.op k (fun h => tRs_cons (tr_of _) (tRs_tl (tRs_tl h))) (fun p l e R s mid args below meth c H locs Q ls ρ hx hb hown hts hR kk => lv_ior hx hb d (by rw [← ti_of (Int32.ofInt a ||| Int32.ofInt b)]; exact kk))
theorem Tj.ixor {M : MI} {pc pc' : Nat} {lv : List (Option tV)} {st : List tV} {m : tM} {P : Option tV → tM → Prop} {a b : Int} (d : decode M.2.1 pc = .ok (.ixor, 1)) (hp : pc + 1 = pc') (k : Tj M pc' lv (iV (bXor a b) :: st) m P) : Tj M pc lv (iV b :: iV a :: st) m P := by
  subst hp
  exact Tj.op k (fun h => tRs_cons (tr_of _) (tRs_tl (tRs_tl h))) (fun p l e R s mid args below meth c H locs Q ls ρ hx hb hown hts hR kk => lv_ixor hx hb d (by rw [← ti_of (Int32.ofInt a ^^^ Int32.ofInt b)]; exact kk))
theorem Tj.ishl {M : MI} {pc pc' : Nat} {lv : List (Option tV)} {st : List tV} {m : tM} {P : Option tV → tM → Prop} {a b : Int} (d : decode M.2.1 pc = .ok (.ishl, 1)) (hp : pc + 1 = pc') (k : Tj M pc' lv (iV (bShl a b) :: st) m P) : Tj M pc lv (iV b :: iV a :: st) m P := by
  subst hp
  exact Tj.op k (fun h => tRs_cons (tr_of _) (tRs_tl (tRs_tl h))) (fun p l e R s mid args below meth c H locs Q ls ρ hx hb hown hts hR kk => lv_ishl hx hb d (by rw [← ti_of (Int32.ofInt a <<< (Int32.ofInt b &&& 31))]; exact kk))
theorem Tj.ishr {M : MI} {pc pc' : Nat} {lv : List (Option tV)} {st : List tV} {m : tM} {P : Option tV → tM → Prop} {a b : Int} (d : decode M.2.1 pc = .ok (.ishr, 1)) (hp : pc + 1 = pc') (k : Tj M pc' lv (iV (bShr a b) :: st) m P) : Tj M pc lv (iV b :: iV a :: st) m P := by
  subst hp
  exact Tj.op k (fun h => tRs_cons (tr_of _) (tRs_tl (tRs_tl h))) (fun p l e R s mid args below meth c H locs Q ls ρ hx hb hown hts hR kk => lv_ishr hx hb d (by rw [← ti_of (Int32.ofInt a >>> (Int32.ofInt b &&& 31))]; exact kk))
theorem Tj.iushr {M : MI} {pc pc' : Nat} {lv : List (Option tV)} {st : List tV} {m : tM} {P : Option tV → tM → Prop} {a b : Int} (d : decode M.2.1 pc = .ok (.iushr, 1)) (hp : pc + 1 = pc') (k : Tj M pc' lv (iV (bUshr a b) :: st) m P) : Tj M pc lv (iV b :: iV a :: st) m P := by
  subst hp
  exact Tj.op k (fun h => tRs_cons (tr_of _) (tRs_tl (tRs_tl h))) (fun p l e R s mid args below meth c H locs Q ls ρ hx hb hown hts hR kk => lv_iushr hx hb d (v := Int32.ofInt (bUshr a b)) (ti_of _).symm kk)
theorem Tj.ladd {M : MI} {pc pc' : Nat} {lv : List (Option tV)} {st : List tV} {m : tM} {P : Option tV → tM → Prop} {x y : Int64} (d : decode M.2.1 pc = .ok (.ladd, 1)) (hp : pc + 1 = pc') (k : Tj M pc' lv (lV (x + y) :: st) m P) : Tj M pc lv (lV y :: lV x :: st) m P := by
  subst hp
  exact Tj.op k (fun h => tRs_cons trivial (tRs_tl (tRs_tl h))) (fun p l e R s mid args below meth c H locs Q ls ρ hx hb hown hts hR kk => lv_ladd hx hb d kk)
theorem Tj.lsub {M : MI} {pc pc' : Nat} {lv : List (Option tV)} {st : List tV} {m : tM} {P : Option tV → tM → Prop} {x y : Int64} (d : decode M.2.1 pc = .ok (.lsub, 1)) (hp : pc + 1 = pc') (k : Tj M pc' lv (lV (x - y) :: st) m P) : Tj M pc lv (lV y :: lV x :: st) m P := by
  subst hp
  exact Tj.op k (fun h => tRs_cons trivial (tRs_tl (tRs_tl h))) (fun p l e R s mid args below meth c H locs Q ls ρ hx hb hown hts hR kk => lv_lsub hx hb d kk)
theorem Tj.land {M : MI} {pc pc' : Nat} {lv : List (Option tV)} {st : List tV} {m : tM} {P : Option tV → tM → Prop} {x y : Int64} (d : decode M.2.1 pc = .ok (.land, 1)) (hp : pc + 1 = pc') (k : Tj M pc' lv (lV (x &&& y) :: st) m P) : Tj M pc lv (lV y :: lV x :: st) m P := by
  subst hp
  exact Tj.op k (fun h => tRs_cons trivial (tRs_tl (tRs_tl h))) (fun p l e R s mid args below meth c H locs Q ls ρ hx hb hown hts hR kk => lv_land hx hb d kk)
theorem Tj.lor {M : MI} {pc pc' : Nat} {lv : List (Option tV)} {st : List tV} {m : tM} {P : Option tV → tM → Prop} {x y : Int64} (d : decode M.2.1 pc = .ok (.lor, 1)) (hp : pc + 1 = pc') (k : Tj M pc' lv (lV (x ||| y) :: st) m P) : Tj M pc lv (lV y :: lV x :: st) m P := by
  subst hp
  exact Tj.op k (fun h => tRs_cons trivial (tRs_tl (tRs_tl h))) (fun p l e R s mid args below meth c H locs Q ls ρ hx hb hown hts hR kk => lv_lor hx hb d kk)
theorem Tj.lxor {M : MI} {pc pc' : Nat} {lv : List (Option tV)} {st : List tV} {m : tM} {P : Option tV → tM → Prop} {x y : Int64} (d : decode M.2.1 pc = .ok (.lxor, 1)) (hp : pc + 1 = pc') (k : Tj M pc' lv (lV (x ^^^ y) :: st) m P) : Tj M pc lv (lV y :: lV x :: st) m P := by
  subst hp
  exact Tj.op k (fun h => tRs_cons trivial (tRs_tl (tRs_tl h))) (fun p l e R s mid args below meth c H locs Q ls ρ hx hb hown hts hR kk => lv_lxor hx hb d kk)
theorem Tj.lneg {M : MI} {pc pc' : Nat} {lv : List (Option tV)} {st : List tV} {m : tM} {P : Option tV → tM → Prop} {x : Int64} (d : decode M.2.1 pc = .ok (.lneg, 1)) (hp : pc + 1 = pc') (k : Tj M pc' lv (lV (-x) :: st) m P) : Tj M pc lv (lV x :: st) m P := by
  subst hp
  exact Tj.op k (fun h => tRs_cons trivial (tRs_tl h)) (fun p l e R s mid args below meth c H locs Q ls ρ hx hb hown hts hR kk => lv_lneg hx hb d kk)
def bLshl (x : Int64) (n : Int) : Int64 := x <<< ((Int32.ofInt n).toInt64 &&& 63)
def bLshr (x : Int64) (n : Int) : Int64 := x >>> ((Int32.ofInt n).toInt64 &&& 63)
def bLushr (x : Int64) (n : Int) : Int64 := (x.toUInt64 >>> ((Int32.ofInt n).toInt64.toUInt64 &&& Int64.toUInt64 63)).toInt64
theorem Tj.lshl {M : MI} {pc pc' : Nat} {lv : List (Option tV)} {st : List tV} {m : tM} {P : Option tV → tM → Prop} {x : Int64} {n : Int} (d : decode M.2.1 pc = .ok (.lshl, 1)) (hp : pc + 1 = pc') (k : Tj M pc' lv (lV (bLshl x n) :: st) m P) : Tj M pc lv (iV n :: lV x :: st) m P := by
  subst hp
  exact Tj.op k (fun h => tRs_cons trivial (tRs_tl (tRs_tl h))) (fun p l e R s mid args below meth c H locs Q ls ρ hx hb hown hts hR kk => lv_lshl hx hb d rfl kk)
theorem Tj.lshr {M : MI} {pc pc' : Nat} {lv : List (Option tV)} {st : List tV} {m : tM} {P : Option tV → tM → Prop} {x : Int64} {n : Int} (d : decode M.2.1 pc = .ok (.lshr, 1)) (hp : pc + 1 = pc') (k : Tj M pc' lv (lV (bLshr x n) :: st) m P) : Tj M pc lv (iV n :: lV x :: st) m P := by
  subst hp
  exact Tj.op k (fun h => tRs_cons trivial (tRs_tl (tRs_tl h))) (fun p l e R s mid args below meth c H locs Q ls ρ hx hb hown hts hR kk => lv_lshr hx hb d rfl kk)
theorem Tj.lushr {M : MI} {pc pc' : Nat} {lv : List (Option tV)} {st : List tV} {m : tM} {P : Option tV → tM → Prop} {x : Int64} {n : Int} (d : decode M.2.1 pc = .ok (.lushr, 1)) (hp : pc + 1 = pc') (k : Tj M pc' lv (lV (bLushr x n) :: st) m P) : Tj M pc lv (iV n :: lV x :: st) m P := by
  subst hp
  exact Tj.op k (fun h => tRs_cons trivial (tRs_tl (tRs_tl h))) (fun p l e R s mid args below meth c H locs Q ls ρ hx hb hown hts hR kk => lv_lushr hx hb d rfl kk)
theorem Tj.lcmp {M : MI} {pc pc' : Nat} {lv : List (Option tV)} {st : List tV} {m : tM} {P : Option tV → tM → Prop} {x y : Int64} (d : decode M.2.1 pc = .ok (.lcmp, 1)) (hp : pc + 1 = pc') (k : Tj M pc' lv (iV (lcI x y) :: st) m P) : Tj M pc lv (lV y :: lV x :: st) m P := by
  subst hp
  exact Tj.op k (fun h => tRs_cons (lcI_r x y) (tRs_tl (tRs_tl h))) (fun p l e R s mid args below meth c H locs Q ls ρ hx hb hown hts hR kk => W.lcmp hx hb d (by rw [lcI_ok]; exact kk))
theorem Tj.i2l {M : MI} {pc pc' : Nat} {lv : List (Option tV)} {st : List tV} {m : tM} {P : Option tV → tM → Prop} {n : Int} (d : decode M.2.1 pc = .ok (.i2l, 1)) (hp : pc + 1 = pc') (k : Tj M pc' lv (lV (Int64.ofInt n) :: st) m P) : Tj M pc lv (iV n :: st) m P := by
  subst hp
  exact Tj.op k (fun h => tRs_cons trivial (tRs_tl h)) (fun p l e R s mid args below meth c H locs Q ls ρ hx hb hown hts hR kk => lv_i2l hx hb d (ti_i2l (tRs_hd hR)) kk)
theorem Tj.l2i {M : MI} {pc pc' : Nat} {lv : List (Option tV)} {st : List tV} {m : tM} {P : Option tV → tM → Prop} {x : Int64} (d : decode M.2.1 pc = .ok (.l2i, 1)) (hp : pc + 1 = pc') (k : Tj M pc' lv (iV x.toInt32.toInt :: st) m P) : Tj M pc lv (lV x :: st) m P := by
  subst hp
  exact Tj.op k (fun h => tRs_cons (tr_of _) (tRs_tl h)) (fun p l e R s mid args below meth c H locs Q ls ρ hx hb hown hts hR kk => lv_l2i hx hb d (v := Int32.ofInt x.toInt32.toInt) (ti_of _).symm kk)
theorem Tj.dup {M : MI} {pc pc' : Nat} {lv : List (Option tV)} {st : List tV} {m : tM} {P : Option tV → tM → Prop} {v : tV} (d : decode M.2.1 pc = .ok (.dup, 1)) (hv : tcat v = 1) (hp : pc + 1 = pc') (k : Tj M pc' lv (v :: v :: st) m P) : Tj M pc lv (v :: st) m P := by
  subst hp
  exact Tj.op k (fun h => tRs_cons (tRs_hd h) h) (fun p l e R s mid args below meth c H locs Q ls ρ hx hb hown hts hR kk => lv_dup hx hb d ((tcat_eq ρ v).trans hv) kk)
theorem Tj.pop {M : MI} {pc pc' : Nat} {lv : List (Option tV)} {st : List tV} {m : tM} {P : Option tV → tM → Prop} {v : tV} (d : decode M.2.1 pc = .ok (.pop, 1)) (hv : tcat v = 1) (hp : pc + 1 = pc') (k : Tj M pc' lv st m P) : Tj M pc lv (v :: st) m P := by
  subst hp
  exact Tj.op k (fun h => tRs_tl h) (fun p l e R s mid args below meth c H locs Q ls ρ hx hb hown hts hR kk => lv_pop hx hb d ((tcat_eq ρ v).trans hv) kk)
theorem Tj.dup2 {M : MI} {pc pc' : Nat} {lv : List (Option tV)} {st : List tV} {m : tM} {P : Option tV → tM → Prop} {v w : tV} (d : decode M.2.1 pc = .ok (.dup2, 1)) (hv : tcat v = 1) (hw : tcat w = 1) (hp : pc + 1 = pc') (k : Tj M pc' lv (v :: w :: v :: w :: st) m P) : Tj M pc lv (v :: w :: st) m P := by
  subst hp
  exact Tj.op k (fun h => tRs_cons (tRs_hd h) (tRs_cons (tRs_hd (tRs_tl h)) h)) (fun p l e R s mid args below meth c H locs Q ls ρ hx hb hown hts hR kk => lv_dup2_11 hx hb d ((tcat_eq ρ v).trans hv) ((tcat_eq ρ w).trans hw) kk)
theorem Tj.dup_x1 {M : MI} {pc pc' : Nat} {lv : List (Option tV)} {st : List tV} {m : tM} {P : Option tV → tM → Prop} {v w : tV} (d : decode M.2.1 pc = .ok (.dup_x1, 1)) (hv : tcat v = 1) (hw : tcat w = 1) (hp : pc + 1 = pc') (k : Tj M pc' lv (v :: w :: v :: st) m P) : Tj M pc lv (v :: w :: st) m P := by
  subst hp
  exact Tj.op k (fun h => tRs_cons (tRs_hd h) (tRs_cons (tRs_hd (tRs_tl h)) (tRs_cons (tRs_hd h) (tRs_tl (tRs_tl h))))) (fun p l e R s mid args below meth c H locs Q ls ρ hx hb hown hts hR kk => lv_dup_x1 hx hb d ((tcat_eq ρ v).trans hv) ((tcat_eq ρ w).trans hw) kk)
theorem Tj.goto {M : MI} {pc pc' : Nat} {lv : List (Option tV)} {st : List tV} {m : tM} {P : Option tV → tM → Prop} {off : Int} (d : decode M.2.1 pc = .ok (.goto off, 3)) (ht : (pc : Int) + off = (pc' : Int)) (k : Tj M pc' lv st m P) : Tj M pc lv st m P :=
  Tj.op k (fun h => h) (fun p l e R s mid args below meth c H locs Q ls ρ hx hb hown hts hR kk => lv_goto hx hb d ht kk)
theorem Tj.icmp_eq {M : MI} {pc pc' : Nat} {lv : List (Option tV)} {st : List tV} {m : tM} {P : Option tV → tM → Prop} {a b : Int} {off : Int} {tgt : Nat} (d : decode M.2.1 pc = .ok (.if_icmp .eq off, 3)) (ht : (pc : Int) + off = (tgt : Int)) (hp : pc + 3 = pc') (k1 : a = b → Tj M tgt lv st m P) (k2 : ¬ a = b → Tj M pc' lv st m P) : Tj M pc lv (iV b :: iV a :: st) m P := by
  subst hp
  intro p l e s mid args below meth c H locs D cA ρ ls X h1 h2 h3 hP hS hl
  have ra : R32 a := (tRs_hd (tRs_tl h2))
  have rb : R32 b := (tRs_hd h2)
  have j1 : a = b → _ := fun q => k1 q p l e s mid args below meth c H locs D cA ρ ls X h1 (tRs_tl (tRs_tl h2)) h3 hP hS hl
  have j2 : ¬ a = b → _ := fun q => k2 q p l e s mid args below meth c H locs D cA ρ ls X h1 (tRs_tl (tRs_tl h2)) h3 hP hS hl
  exact lv_icmp_eq X.1 X.2.1 d ht (fun q => j1 (by exact (ti_inj ra rb).mp q)) (fun q => j2 (fun q2 => q (by subst q2; rfl)))
theorem Tj.if_eq {M : MI} {pc pc' : Nat} {lv : List (Option tV)} {st : List tV} {m : tM} {P : Option tV → tM → Prop} {a : Int} {off : Int} {tgt : Nat} (d : decode M.2.1 pc = .ok (.ifCond .eq off, 3)) (ht : (pc : Int) + off = (tgt : Int)) (hp : pc + 3 = pc') (k1 : a = 0 → Tj M tgt lv st m P) (k2 : ¬ a = 0 → Tj M pc' lv st m P) : Tj M pc lv (iV a :: st) m P := by
  subst hp
  intro p l e s mid args below meth c H locs D cA ρ ls X h1 h2 h3 hP hS hl
  have ra : R32 a := (tRs_hd h2)
  have rb : R32 0 := (by decide : R32 0)
  have j1 : a = 0 → _ := fun q => k1 q p l e s mid args below meth c H locs D cA ρ ls X h1 (tRs_tl h2) h3 hP hS hl
  have j2 : ¬ a = 0 → _ := fun q => k2 q p l e s mid args below meth c H locs D cA ρ ls X h1 (tRs_tl h2) h3 hP hS hl
  exact lv_if_eq X.1 X.2.1 d ht (fun q => j1 (by rw [← ti_0] at q; exact (ti_inj ra rb).mp q)) (fun q => j2 (fun q2 => q (by subst q2; exact ti_0)))
theorem Tj.icmp_ne {M : MI} {pc pc' : Nat} {lv : List (Option tV)} {st : List tV} {m : tM} {P : Option tV → tM → Prop} {a b : Int} {off : Int} {tgt : Nat} (d : decode M.2.1 pc = .ok (.if_icmp .ne off, 3)) (ht : (pc : Int) + off = (tgt : Int)) (hp : pc + 3 = pc') (k1 : a = b → Tj M pc' lv st m P) (k2 : ¬ a = b → Tj M tgt lv st m P) : Tj M pc lv (iV b :: iV a :: st) m P := by
  subst hp
  intro p l e s mid args below meth c H locs D cA ρ ls X h1 h2 h3 hP hS hl
  have ra : R32 a := (tRs_hd (tRs_tl h2))
  have rb : R32 b := (tRs_hd h2)
  have j1 : a = b → _ := fun q => k1 q p l e s mid args below meth c H locs D cA ρ ls X h1 (tRs_tl (tRs_tl h2)) h3 hP hS hl
  have j2 : ¬ a = b → _ := fun q => k2 q p l e s mid args below meth c H locs D cA ρ ls X h1 (tRs_tl (tRs_tl h2)) h3 hP hS hl
  exact lv_icmp_ne X.1 X.2.1 d ht (fun q => j2 (fun q2 => q (by subst q2; rfl))) (fun q => j1 (by exact (ti_inj ra rb).mp q))
theorem Tj.if_ne {M : MI} {pc pc' : Nat} {lv : List (Option tV)} {st : List tV} {m : tM} {P : Option tV → tM → Prop} {a : Int} {off : Int} {tgt : Nat} (d : decode M.2.1 pc = .ok (.ifCond .ne off, 3)) (ht : (pc : Int) + off = (tgt : Int)) (hp : pc + 3 = pc') (k1 : a = 0 → Tj M pc' lv st m P) (k2 : ¬ a = 0 → Tj M tgt lv st m P) : Tj M pc lv (iV a :: st) m P := by
  subst hp
  intro p l e s mid args below meth c H locs D cA ρ ls X h1 h2 h3 hP hS hl
  have ra : R32 a := (tRs_hd h2)
  have rb : R32 0 := (by decide : R32 0)
  have j1 : a = 0 → _ := fun q => k1 q p l e s mid args below meth c H locs D cA ρ ls X h1 (tRs_tl h2) h3 hP hS hl
  have j2 : ¬ a = 0 → _ := fun q => k2 q p l e s mid args below meth c H locs D cA ρ ls X h1 (tRs_tl h2) h3 hP hS hl
  exact lv_if_ne X.1 X.2.1 d ht (fun q => j2 (fun q2 => q (by subst q2; exact ti_0))) (fun q => j1 (by rw [← ti_0] at q; exact (ti_inj ra rb).mp q))
theorem Tj.icmp_lt {M : MI} {pc pc' : Nat} {lv : List (Option tV)} {st : List tV} {m : tM} {P : Option tV → tM → Prop} {a b : Int} {off : Int} {tgt : Nat} (d : decode M.2.1 pc = .ok (.if_icmp .lt off, 3)) (ht : (pc : Int) + off = (tgt : Int)) (hp : pc + 3 = pc') (k1 : a < b → Tj M tgt lv st m P) (k2 : ¬ a < b → Tj M pc' lv st m P) : Tj M pc lv (iV b :: iV a :: st) m P := by
  subst hp
  intro p l e s mid args below meth c H locs D cA ρ ls X h1 h2 h3 hP hS hl
  have ra : R32 a := (tRs_hd (tRs_tl h2))
  have rb : R32 b := (tRs_hd h2)
  have j1 : a < b → _ := fun q => k1 q p l e s mid args below meth c H locs D cA ρ ls X h1 (tRs_tl (tRs_tl h2)) h3 hP hS hl
  have j2 : ¬ a < b → _ := fun q => k2 q p l e s mid args below meth c H locs D cA ρ ls X h1 (tRs_tl (tRs_tl h2)) h3 hP hS hl
  exact lv_icmp_lt X.1 X.2.1 d ht (fun q => j1 (by exact (ti_lt ra rb).mp q)) (fun q => j2 (fun q2 => q (by exact (ti_lt ra rb).mpr q2)))
theorem Tj.if_lt {M : MI} {pc pc' : Nat} {lv : List (Option tV)} {st : List tV} {m : tM} {P : Option tV → tM → Prop} {a : Int} {off : Int} {tgt : Nat} (d : decode M.2.1 pc = .ok (.ifCond .lt off, 3)) (ht : (pc : Int) + off = (tgt : Int)) (hp : pc + 3 = pc') (k1 : a < 0 → Tj M tgt lv st m P) (k2 : ¬ a < 0 → Tj M pc' lv st m P) : Tj M pc lv (iV a :: st) m P := by
  subst hp
  intro p l e s mid args below meth c H locs D cA ρ ls X h1 h2 h3 hP hS hl
  have ra : R32 a := (tRs_hd h2)
  have rb : R32 0 := (by decide : R32 0)
  have j1 : a < 0 → _ := fun q => k1 q p l e s mid args below meth c H locs D cA ρ ls X h1 (tRs_tl h2) h3 hP hS hl
  have j2 : ¬ a < 0 → _ := fun q => k2 q p l e s mid args below meth c H locs D cA ρ ls X h1 (tRs_tl h2) h3 hP hS hl
  exact lv_if_lt X.1 X.2.1 d ht (fun q => j1 (by rw [← ti_0] at q; exact (ti_lt ra rb).mp q)) (fun q => j2 (fun q2 => q (by rw [← ti_0]; exact (ti_lt ra rb).mpr q2)))
theorem Tj.icmp_ge {M : MI} {pc pc' : Nat} {lv : List (Option tV)} {st : List tV} {m : tM} {P : Option tV → tM → Prop} {a b : Int} {off : Int} {tgt : Nat} (d : decode M.2.1 pc = .ok (.if_icmp .ge off, 3)) (ht : (pc : Int) + off = (tgt : Int)) (hp : pc + 3 = pc') (k1 : a < b → Tj M pc' lv st m P) (k2 : ¬ a < b → Tj M tgt lv st m P) : Tj M pc lv (iV b :: iV a :: st) m P := by
  subst hp
  intro p l e s mid args below meth c H locs D cA ρ ls X h1 h2 h3 hP hS hl
  have ra : R32 a := (tRs_hd (tRs_tl h2))
  have rb : R32 b := (tRs_hd h2)
  have j1 : a < b → _ := fun q => k1 q p l e s mid args below meth c H locs D cA ρ ls X h1 (tRs_tl (tRs_tl h2)) h3 hP hS hl
  have j2 : ¬ a < b → _ := fun q => k2 q p l e s mid args below meth c H locs D cA ρ ls X h1 (tRs_tl (tRs_tl h2)) h3 hP hS hl
  exact lv_icmp_ge X.1 X.2.1 d ht (fun q => j2 (by have := (ti_le rb ra).mp q; omega)) (fun q => j1 (by have q3 : ¬ b ≤ a := fun q2 => q ((ti_le rb ra).mpr q2); omega))
theorem Tj.if_ge {M : MI} {pc pc' : Nat} {lv : List (Option tV)} {st : List tV} {m : tM} {P : Option tV → tM → Prop} {a : Int} {off : Int} {tgt : Nat} (d : decode M.2.1 pc = .ok (.ifCond .ge off, 3)) (ht : (pc : Int) + off = (tgt : Int)) (hp : pc + 3 = pc') (k1 : a < 0 → Tj M pc' lv st m P) (k2 : ¬ a < 0 → Tj M tgt lv st m P) : Tj M pc lv (iV a :: st) m P := by
  subst hp
  intro p l e s mid args below meth c H locs D cA ρ ls X h1 h2 h3 hP hS hl
  have ra : R32 a := (tRs_hd h2)
  have rb : R32 0 := (by decide : R32 0)
  have j1 : a < 0 → _ := fun q => k1 q p l e s mid args below meth c H locs D cA ρ ls X h1 (tRs_tl h2) h3 hP hS hl
  have j2 : ¬ a < 0 → _ := fun q => k2 q p l e s mid args below meth c H locs D cA ρ ls X h1 (tRs_tl h2) h3 hP hS hl
  exact lv_if_ge X.1 X.2.1 d ht (fun q => j2 (by rw [← ti_0] at q; have := (ti_le rb ra).mp q; omega)) (fun q => j1 (by rw [← ti_0] at q; have q3 : ¬ 0 ≤ a := fun q2 => q ((ti_le rb ra).mpr q2); omega))
theorem Tj.icmp_gt {M : MI} {pc pc' : Nat} {lv : List (Option tV)} {st : List tV} {m : tM} {P : Option tV → tM → Prop} {a b : Int} {off : Int} {tgt : Nat} (d : decode M.2.1 pc = .ok (.if_icmp .gt off, 3)) (ht : (pc : Int) + off = (tgt : Int)) (hp : pc + 3 = pc') (k1 : b < a → Tj M tgt lv st m P) (k2 : ¬ b < a → Tj M pc' lv st m P) : Tj M pc lv (iV b :: iV a :: st) m P := by
  subst hp
  intro p l e s mid args below meth c H locs D cA ρ ls X h1 h2 h3 hP hS hl
  have ra : R32 a := (tRs_hd (tRs_tl h2))
  have rb : R32 b := (tRs_hd h2)
  have j1 : b < a → _ := fun q => k1 q p l e s mid args below meth c H locs D cA ρ ls X h1 (tRs_tl (tRs_tl h2)) h3 hP hS hl
  have j2 : ¬ b < a → _ := fun q => k2 q p l e s mid args below meth c H locs D cA ρ ls X h1 (tRs_tl (tRs_tl h2)) h3 hP hS hl
  exact lv_icmp_gt X.1 X.2.1 d ht (fun q => j1 (by exact (ti_lt rb ra).mp q)) (fun q => j2 (fun q2 => q (by exact (ti_lt rb ra).mpr q2)))
theorem Tj.if_gt {M : MI} {pc pc' : Nat} {lv : List (Option tV)} {st : List tV} {m : tM} {P : Option tV → tM → Prop} {a : Int} {off : Int} {tgt : Nat} (d : decode M.2.1 pc = .ok (.ifCond .gt off, 3)) (ht : (pc : Int) + off = (tgt : Int)) (hp : pc + 3 = pc') (k1 : 0 < a → Tj M tgt lv st m P) (k2 : ¬ 0 < a → Tj M pc' lv st m P) : Tj M pc lv (iV a :: st) m P := by
  subst hp
  intro p l e s mid args below meth c H locs D cA ρ ls X h1 h2 h3 hP hS hl
  have ra : R32 a := (tRs_hd h2)
  have rb : R32 0 := (by decide : R32 0)
  have j1 : 0 < a → _ := fun q => k1 q p l e s mid args below meth c H locs D cA ρ ls X h1 (tRs_tl h2) h3 hP hS hl
  have j2 : ¬ 0 < a → _ := fun q => k2 q p l e s mid args below meth c H locs D cA ρ ls X h1 (tRs_tl h2) h3 hP hS hl
  exact lv_if_gt X.1 X.2.1 d ht (fun q => j1 (by rw [← ti_0] at q; exact (ti_lt rb ra).mp q)) (fun q => j2 (fun q2 => q (by rw [← ti_0]; exact (ti_lt rb ra).mpr q2)))
theorem Tj.icmp_le {M : MI} {pc pc' : Nat} {lv : List (Option tV)} {st : List tV} {m : tM} {P : Option tV → tM → Prop} {a b : Int} {off : Int} {tgt : Nat} (d : decode M.2.1 pc = .ok (.if_icmp .le off, 3)) (ht : (pc : Int) + off = (tgt : Int)) (hp : pc + 3 = pc') (k1 : b < a → Tj M pc' lv st m P) (k2 : ¬ b < a → Tj M tgt lv st m P) : Tj M pc lv (iV b :: iV a :: st) m P := by
  subst hp
  intro p l e s mid args below meth c H locs D cA ρ ls X h1 h2 h3 hP hS hl
  have ra : R32 a := (tRs_hd (tRs_tl h2))
  have rb : R32 b := (tRs_hd h2)
  have j1 : b < a → _ := fun q => k1 q p l e s mid args below meth c H locs D cA ρ ls X h1 (tRs_tl (tRs_tl h2)) h3 hP hS hl
  have j2 : ¬ b < a → _ := fun q => k2 q p l e s mid args below meth c H locs D cA ρ ls X h1 (tRs_tl (tRs_tl h2)) h3 hP hS hl
  exact lv_icmp_le X.1 X.2.1 d ht (fun q => j2 (by have := (ti_le ra rb).mp q; omega)) (fun q => j1 (by have q3 : ¬ a ≤ b := fun q2 => q ((ti_le ra rb).mpr q2); omega))
theorem Tj.if_le {M : MI} {pc pc' : Nat} {lv : List (Option tV)} {st : List tV} {m : tM} {P : Option tV → tM → Prop} {a : Int} {off : Int} {tgt : Nat} (d : decode M.2.1 pc = .ok (.ifCond .le off, 3)) (ht : (pc : Int) + off = (tgt : Int)) (hp : pc + 3 = pc') (k1 : 0 < a → Tj M pc' lv st m P) (k2 : ¬ 0 < a → Tj M tgt lv st m P) : Tj M pc lv (iV a :: st) m P := by
  subst hp
  intro p l e s mid args below meth c H locs D cA ρ ls X h1 h2 h3 hP hS hl
  have ra : R32 a := (tRs_hd h2)
  have rb : R32 0 := (by decide : R32 0)
  have j1 : 0 < a → _ := fun q => k1 q p l e s mid args below meth c H locs D cA ρ ls X h1 (tRs_tl h2) h3 hP hS hl
  have j2 : ¬ 0 < a → _ := fun q => k2 q p l e s mid args below meth c H locs D cA ρ ls X h1 (tRs_tl h2) h3 hP hS hl
  exact lv_if_le X.1 X.2.1 d ht (fun q => j2 (by rw [← ti_0] at q; have := (ti_le ra rb).mp q; omega)) (fun q => j1 (by rw [← ti_0] at q; have q3 : ¬ a ≤ 0 := fun q2 => q ((ti_le ra rb).mpr q2); omega))
theorem Tj.tsI {M : MI} {pc pc' : Nat} {lv : List (Option tV)} {st : List tV} {m : tM} {P : Option tV → tM → Prop} {n v : Int} {dflt lo hi off : Int} {offs : Array Int} {len : Nat} (d : decode M.2.1 pc = .ok (.tableswitch dflt lo hi offs, len)) (e : n = v) (h1 : lo ≤ v) (h2 : v ≤ hi) (ho : offs[(v - lo).toNat]? = some off) (ht : (pc : Int) + off = (pc' : Int)) (k : Tj M pc' lv st m P) : Tj M pc lv (iV n :: st) m P := by
  subst e
  exact Tj.op k (fun h => tRs_tl h) (fun p l e R s mid args below meth c H locs Q ls ρ hx hb hown hts hR kk => lv_tableIn hx hb d (by rw [ti (tRs_hd hR)]; omega) (by rw [ti (tRs_hd hR)]; omega) (by rw [ti (tRs_hd hR)]; exact ho) ht kk)
theorem Tj.tsO {M : MI} {pc pc' : Nat} {lv : List (Option tV)} {st : List tV} {m : tM} {P : Option tV → tM → Prop} {n : Int} {dflt lo hi : Int} {offs : Array Int} {len : Nat} (d : decode M.2.1 pc = .ok (.tableswitch dflt lo hi offs, len)) (he : n < lo ∨ hi < n) (ht : (pc : Int) + dflt = (pc' : Int)) (k : Tj M pc' lv st m P) : Tj M pc lv (iV n :: st) m P :=
  Tj.op k (fun h => tRs_tl h) (fun p l e R s mid args below meth c H locs Q ls ρ hx hb hown hts hR kk => lv_tableOut hx hb d (by rw [ti (tRs_hd hR)]; exact he) ht kk)
theorem Tj.lsw {M : MI} {pc pc' : Nat} {lv : List (Option tV)} {st : List tV} {m : tM} {P : Option tV → tM → Prop} {n : Int} {dflt off : Int} {ps : Array (Int × Int)} {len : Nat} (d : decode M.2.1 pc = .ok (.lookupswitch dflt ps, len)) (hs : (ps.toList.zip (ps.toList.drop 1)).all (fun (a, next) => a.1 < next.1) = true) (ho : Op.lookupswitch.offset ps.toList dflt n = off) (ht : (pc : Int) + off = (pc' : Int)) (k : Tj M pc' lv st m P) : Tj M pc lv (iV n :: st) m P :=
  Tj.op k (fun h => tRs_tl h) (fun p l e R s mid args below meth c H locs Q ls ρ hx hb hown hts hR kk => lv_lookup hx hb d hs (by rw [ti (tRs_hd hR)]; exact ho) ht kk)
end
