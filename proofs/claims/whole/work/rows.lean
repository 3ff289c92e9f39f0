section
/-- a private method of a class that the tables say can be made, by its rows of tables_1 -/
def lw_okq (q : MethodName × Nat) : Prop := (q.1.cls ≠ "java/lang/invoke/MethodHandle" ∧ q.1.cls ≠ "java/lang/invoke/VarHandle") ∧ Cond.instantiable q.1.cls q.2 ∈ tables_1 ∧ Cond.privateMethod q.1 ∈ tables_1 ∧ Cond.instanceMethod q.1 ∈ tables_1
theorem lw_p0 : lw_okq (⟨"PathEditor", "startChange", "()LPathEditor$Picture;"⟩, 7) := ⟨⟨by decide +kernel, by decide +kernel⟩, List.mem_of_getElem? (i := 13) (by decide +kernel), List.mem_of_getElem? (i := 203) (by decide +kernel), List.mem_of_getElem? (i := 204) (by decide +kernel)⟩
theorem lw_p1 : lw_okq (⟨"PathEditor$Limits", "start", "()V"⟩, 2) := ⟨⟨by decide +kernel, by decide +kernel⟩, List.mem_of_getElem? (i := 86) (by decide +kernel), List.mem_of_getElem? (i := 207) (by decide +kernel), List.mem_of_getElem? (i := 208) (by decide +kernel)⟩
theorem lw_p2 : lw_okq (⟨"PathEditor$History", "draftOfNow", "()LPathEditor$Picture;"⟩, 5) := ⟨⟨by decide +kernel, by decide +kernel⟩, List.mem_of_getElem? (i := 21) (by decide +kernel), List.mem_of_getElem? (i := 211) (by decide +kernel), List.mem_of_getElem? (i := 212) (by decide +kernel)⟩
theorem lw_p3 : lw_okq (⟨"PathEditor$History", "now", "()LPathEditor$Picture;"⟩, 5) := ⟨⟨by decide +kernel, by decide +kernel⟩, List.mem_of_getElem? (i := 21) (by decide +kernel), List.mem_of_getElem? (i := 215) (by decide +kernel), List.mem_of_getElem? (i := 216) (by decide +kernel)⟩
theorem lw_p4 : lw_okq (⟨"PathEditor$Picture", "copyFrom", "(LPathEditor$Picture;)V"⟩, 2) := ⟨⟨by decide +kernel, by decide +kernel⟩, List.mem_of_getElem? (i := 28) (by decide +kernel), List.mem_of_getElem? (i := 219) (by decide +kernel), List.mem_of_getElem? (i := 220) (by decide +kernel)⟩
theorem lw_p5 : lw_okq (⟨"PathEditor$Path", "copyFrom", "(LPathEditor$Path;)V"⟩, 3) := ⟨⟨by decide +kernel, by decide +kernel⟩, List.mem_of_getElem? (i := 35) (by decide +kernel), List.mem_of_getElem? (i := 223) (by decide +kernel), List.mem_of_getElem? (i := 224) (by decide +kernel)⟩
theorem lw_p6 : lw_okq (⟨"PathEditor$Picture", "newPath", "()LPathEditor$Path;"⟩, 2) := ⟨⟨by decide +kernel, by decide +kernel⟩, List.mem_of_getElem? (i := 28) (by decide +kernel), List.mem_of_getElem? (i := 230) (by decide +kernel), List.mem_of_getElem? (i := 231) (by decide +kernel)⟩
theorem lw_p7 : lw_okq (⟨"PathEditor$Path", "makeEmpty", "()V"⟩, 3) := ⟨⟨by decide +kernel, by decide +kernel⟩, List.mem_of_getElem? (i := 35) (by decide +kernel), List.mem_of_getElem? (i := 234) (by decide +kernel), List.mem_of_getElem? (i := 235) (by decide +kernel)⟩
theorem lw_p8 : lw_okq (⟨"PathEditor$Path", "addCorner", "(II)V"⟩, 3) := ⟨⟨by decide +kernel, by decide +kernel⟩, List.mem_of_getElem? (i := 35) (by decide +kernel), List.mem_of_getElem? (i := 240) (by decide +kernel), List.mem_of_getElem? (i := 241) (by decide +kernel)⟩
theorem lw_p9 : lw_okq (⟨"PathEditor$Path", "put", "(III)V"⟩, 3) := ⟨⟨by decide +kernel, by decide +kernel⟩, List.mem_of_getElem? (i := 35) (by decide +kernel), List.mem_of_getElem? (i := 244) (by decide +kernel), List.mem_of_getElem? (i := 245) (by decide +kernel)⟩
theorem lw_p10 : lw_okq (⟨"PathEditor", "endChange", "(I)I"⟩, 7) := ⟨⟨by decide +kernel, by decide +kernel⟩, List.mem_of_getElem? (i := 13) (by decide +kernel), List.mem_of_getElem? (i := 249) (by decide +kernel), List.mem_of_getElem? (i := 250) (by decide +kernel)⟩
theorem lw_p11 : lw_okq (⟨"PathEditor$Limits", "error", "()I"⟩, 2) := ⟨⟨by decide +kernel, by decide +kernel⟩, List.mem_of_getElem? (i := 86) (by decide +kernel), List.mem_of_getElem? (i := 253) (by decide +kernel), List.mem_of_getElem? (i := 254) (by decide +kernel)⟩
theorem lw_p12 : lw_okq (⟨"PathEditor$History", "takeDraft", "()V"⟩, 5) := ⟨⟨by decide +kernel, by decide +kernel⟩, List.mem_of_getElem? (i := 21) (by decide +kernel), List.mem_of_getElem? (i := 259) (by decide +kernel), List.mem_of_getElem? (i := 260) (by decide +kernel)⟩
theorem lw_p13 : lw_okq (⟨"PathEditor$Picture", "pathAt", "(I)LPathEditor$Path;"⟩, 2) := ⟨⟨by decide +kernel, by decide +kernel⟩, List.mem_of_getElem? (i := 28) (by decide +kernel), List.mem_of_getElem? (i := 270) (by decide +kernel), List.mem_of_getElem? (i := 271) (by decide +kernel)⟩
theorem lw_p14 : lw_okq (⟨"PathEditor$Picture", "dropPath", "(I)V"⟩, 2) := ⟨⟨by decide +kernel, by decide +kernel⟩, List.mem_of_getElem? (i := 28) (by decide +kernel), List.mem_of_getElem? (i := 280) (by decide +kernel), List.mem_of_getElem? (i := 281) (by decide +kernel)⟩
theorem lw_p15 : lw_okq (⟨"PathEditor$Path", "hasNode", "(I)Z"⟩, 3) := ⟨⟨by decide +kernel, by decide +kernel⟩, List.mem_of_getElem? (i := 35) (by decide +kernel), List.mem_of_getElem? (i := 288) (by decide +kernel), List.mem_of_getElem? (i := 289) (by decide +kernel)⟩
def lw_privs_1 : List (MethodName × Nat) := [(⟨"PathEditor", "startChange", "()LPathEditor$Picture;"⟩, 7), (⟨"PathEditor$Limits", "start", "()V"⟩, 2), (⟨"PathEditor$History", "draftOfNow", "()LPathEditor$Picture;"⟩, 5), (⟨"PathEditor$History", "now", "()LPathEditor$Picture;"⟩, 5), (⟨"PathEditor$Picture", "copyFrom", "(LPathEditor$Picture;)V"⟩, 2), (⟨"PathEditor$Path", "copyFrom", "(LPathEditor$Path;)V"⟩, 3), (⟨"PathEditor$Picture", "newPath", "()LPathEditor$Path;"⟩, 2), (⟨"PathEditor$Path", "makeEmpty", "()V"⟩, 3), (⟨"PathEditor$Path", "addCorner", "(II)V"⟩, 3), (⟨"PathEditor$Path", "put", "(III)V"⟩, 3), (⟨"PathEditor", "endChange", "(I)I"⟩, 7), (⟨"PathEditor$Limits", "error", "()I"⟩, 2), (⟨"PathEditor$History", "takeDraft", "()V"⟩, 5), (⟨"PathEditor$Picture", "pathAt", "(I)LPathEditor$Path;"⟩, 2), (⟨"PathEditor$Picture", "dropPath", "(I)V"⟩, 2), (⟨"PathEditor$Path", "hasNode", "(I)Z"⟩, 3)]
theorem lw_r1 : ∀ q ∈ lw_privs_1, lw_okq q := List.forall_mem_cons.mpr ⟨lw_p0, List.forall_mem_cons.mpr ⟨lw_p1, List.forall_mem_cons.mpr ⟨lw_p2, List.forall_mem_cons.mpr ⟨lw_p3, List.forall_mem_cons.mpr ⟨lw_p4, List.forall_mem_cons.mpr ⟨lw_p5, List.forall_mem_cons.mpr ⟨lw_p6, List.forall_mem_cons.mpr ⟨lw_p7, List.forall_mem_cons.mpr ⟨lw_p8, List.forall_mem_cons.mpr ⟨lw_p9, List.forall_mem_cons.mpr ⟨lw_p10, List.forall_mem_cons.mpr ⟨lw_p11, List.forall_mem_cons.mpr ⟨lw_p12, List.forall_mem_cons.mpr ⟨lw_p13, List.forall_mem_cons.mpr ⟨lw_p14, List.forall_mem_cons.mpr ⟨lw_p15, fun _ h => absurd h List.not_mem_nil⟩⟩⟩⟩⟩⟩⟩⟩⟩⟩⟩⟩⟩⟩⟩⟩
theorem lw_p16 : lw_okq (⟨"PathEditor$Path", "moveBy", "(IIILPathEditor$Limits;)V"⟩, 3) := ⟨⟨by decide +kernel, by decide +kernel⟩, List.mem_of_getElem? (i := 35) (by decide +kernel), List.mem_of_getElem? (i := 292) (by decide +kernel), List.mem_of_getElem? (i := 293) (by decide +kernel)⟩
theorem lw_p17 : lw_okq (⟨"PathEditor$Path", "get", "(II)I"⟩, 3) := ⟨⟨by decide +kernel, by decide +kernel⟩, List.mem_of_getElem? (i := 35) (by decide +kernel), List.mem_of_getElem? (i := 296) (by decide +kernel), List.mem_of_getElem? (i := 297) (by decide +kernel)⟩
theorem lw_p18 : lw_okq (⟨"PathEditor$Limits", "quotient", "(JJ)I"⟩, 2) := ⟨⟨by decide +kernel, by decide +kernel⟩, List.mem_of_getElem? (i := 86) (by decide +kernel), List.mem_of_getElem? (i := 300) (by decide +kernel), List.mem_of_getElem? (i := 301) (by decide +kernel)⟩
theorem lw_p19 : lw_okq (⟨"PathEditor$Path", "isSmooth", "(I)Z"⟩, 3) := ⟨⟨by decide +kernel, by decide +kernel⟩, List.mem_of_getElem? (i := 35) (by decide +kernel), List.mem_of_getElem? (i := 314) (by decide +kernel), List.mem_of_getElem? (i := 315) (by decide +kernel)⟩
theorem lw_p20 : lw_okq (⟨"PathEditor$Path", "fitHandle", "(IZLPathEditor$Limits;)V"⟩, 3) := ⟨⟨by decide +kernel, by decide +kernel⟩, List.mem_of_getElem? (i := 35) (by decide +kernel), List.mem_of_getElem? (i := 318) (by decide +kernel), List.mem_of_getElem? (i := 319) (by decide +kernel)⟩
theorem lw_p21 : lw_okq (⟨"PathEditor$Path", "putRatio", "(III)V"⟩, 3) := ⟨⟨by decide +kernel, by decide +kernel⟩, List.mem_of_getElem? (i := 35) (by decide +kernel), List.mem_of_getElem? (i := 326) (by decide +kernel), List.mem_of_getElem? (i := 327) (by decide +kernel)⟩
theorem lw_p22 : lw_okq (⟨"PathEditor$Path", "makeCorner", "(I)V"⟩, 3) := ⟨⟨by decide +kernel, by decide +kernel⟩, List.mem_of_getElem? (i := 35) (by decide +kernel), List.mem_of_getElem? (i := 333) (by decide +kernel), List.mem_of_getElem? (i := 334) (by decide +kernel)⟩
theorem lw_p23 : lw_okq (⟨"PathEditor$Path", "isZero", "(II)Z"⟩, 3) := ⟨⟨by decide +kernel, by decide +kernel⟩, List.mem_of_getElem? (i := 35) (by decide +kernel), List.mem_of_getElem? (i := 337) (by decide +kernel), List.mem_of_getElem? (i := 338) (by decide +kernel)⟩
theorem lw_p24 : lw_okq (⟨"PathEditor$Path", "hasSegment", "(I)Z"⟩, 3) := ⟨⟨by decide +kernel, by decide +kernel⟩, List.mem_of_getElem? (i := 35) (by decide +kernel), List.mem_of_getElem? (i := 350) (by decide +kernel), List.mem_of_getElem? (i := 351) (by decide +kernel)⟩
theorem lw_p25 : lw_okq (⟨"PathEditor$Path", "segmentCount", "()I"⟩, 3) := ⟨⟨by decide +kernel, by decide +kernel⟩, List.mem_of_getElem? (i := 35) (by decide +kernel), List.mem_of_getElem? (i := 354) (by decide +kernel), List.mem_of_getElem? (i := 355) (by decide +kernel)⟩
theorem lw_p26 : lw_okq (⟨"PathEditor$Path", "cutSegment", "(IIILPathEditor$Cut;LPathEditor$Limits;)V"⟩, 3) := ⟨⟨by decide +kernel, by decide +kernel⟩, List.mem_of_getElem? (i := 35) (by decide +kernel), List.mem_of_getElem? (i := 358) (by decide +kernel), List.mem_of_getElem? (i := 359) (by decide +kernel)⟩
theorem lw_p27 : lw_okq (⟨"PathEditor$Path", "endOf", "(I)I"⟩, 3) := ⟨⟨by decide +kernel, by decide +kernel⟩, List.mem_of_getElem? (i := 35) (by decide +kernel), List.mem_of_getElem? (i := 362) (by decide +kernel), List.mem_of_getElem? (i := 363) (by decide +kernel)⟩
theorem lw_p28 : lw_okq (⟨"PathEditor$Path", "doubleNode", "(I)V"⟩, 3) := ⟨⟨by decide +kernel, by decide +kernel⟩, List.mem_of_getElem? (i := 35) (by decide +kernel), List.mem_of_getElem? (i := 366) (by decide +kernel), List.mem_of_getElem? (i := 367) (by decide +kernel)⟩
theorem lw_p29 : lw_okq (⟨"PathEditor$Path", "copyNode", "(ILPathEditor$Path;I)V"⟩, 3) := ⟨⟨by decide +kernel, by decide +kernel⟩, List.mem_of_getElem? (i := 35) (by decide +kernel), List.mem_of_getElem? (i := 370) (by decide +kernel), List.mem_of_getElem? (i := 371) (by decide +kernel)⟩
theorem lw_p30 : lw_okq (⟨"PathEditor$Cut", "make", "(LPathEditor$Path;IIIII)V"⟩, 3) := ⟨⟨by decide +kernel, by decide +kernel⟩, List.mem_of_getElem? (i := 100) (by decide +kernel), List.mem_of_getElem? (i := 374) (by decide +kernel), List.mem_of_getElem? (i := 375) (by decide +kernel)⟩
theorem lw_p31 : lw_okq (⟨"PathEditor$Path", "scaleHandle", "(IIIILPathEditor$Limits;)V"⟩, 3) := ⟨⟨by decide +kernel, by decide +kernel⟩, List.mem_of_getElem? (i := 35) (by decide +kernel), List.mem_of_getElem? (i := 379) (by decide +kernel), List.mem_of_getElem? (i := 380) (by decide +kernel)⟩
def lw_privs_2 : List (MethodName × Nat) := [(⟨"PathEditor$Path", "moveBy", "(IIILPathEditor$Limits;)V"⟩, 3), (⟨"PathEditor$Path", "get", "(II)I"⟩, 3), (⟨"PathEditor$Limits", "quotient", "(JJ)I"⟩, 2), (⟨"PathEditor$Path", "isSmooth", "(I)Z"⟩, 3), (⟨"PathEditor$Path", "fitHandle", "(IZLPathEditor$Limits;)V"⟩, 3), (⟨"PathEditor$Path", "putRatio", "(III)V"⟩, 3), (⟨"PathEditor$Path", "makeCorner", "(I)V"⟩, 3), (⟨"PathEditor$Path", "isZero", "(II)Z"⟩, 3), (⟨"PathEditor$Path", "hasSegment", "(I)Z"⟩, 3), (⟨"PathEditor$Path", "segmentCount", "()I"⟩, 3), (⟨"PathEditor$Path", "cutSegment", "(IIILPathEditor$Cut;LPathEditor$Limits;)V"⟩, 3), (⟨"PathEditor$Path", "endOf", "(I)I"⟩, 3), (⟨"PathEditor$Path", "doubleNode", "(I)V"⟩, 3), (⟨"PathEditor$Path", "copyNode", "(ILPathEditor$Path;I)V"⟩, 3), (⟨"PathEditor$Cut", "make", "(LPathEditor$Path;IIIII)V"⟩, 3), (⟨"PathEditor$Path", "scaleHandle", "(IIIILPathEditor$Limits;)V"⟩, 3)]
theorem lw_r2 : ∀ q ∈ lw_privs_2, lw_okq q := List.forall_mem_cons.mpr ⟨lw_p16, List.forall_mem_cons.mpr ⟨lw_p17, List.forall_mem_cons.mpr ⟨lw_p18, List.forall_mem_cons.mpr ⟨lw_p19, List.forall_mem_cons.mpr ⟨lw_p20, List.forall_mem_cons.mpr ⟨lw_p21, List.forall_mem_cons.mpr ⟨lw_p22, List.forall_mem_cons.mpr ⟨lw_p23, List.forall_mem_cons.mpr ⟨lw_p24, List.forall_mem_cons.mpr ⟨lw_p25, List.forall_mem_cons.mpr ⟨lw_p26, List.forall_mem_cons.mpr ⟨lw_p27, List.forall_mem_cons.mpr ⟨lw_p28, List.forall_mem_cons.mpr ⟨lw_p29, List.forall_mem_cons.mpr ⟨lw_p30, List.forall_mem_cons.mpr ⟨lw_p31, fun _ h => absurd h List.not_mem_nil⟩⟩⟩⟩⟩⟩⟩⟩⟩⟩⟩⟩⟩⟩⟩⟩
theorem lw_p32 : lw_okq (⟨"PathEditor$Path", "scaleRatio", "(III)V"⟩, 3) := ⟨⟨by decide +kernel, by decide +kernel⟩, List.mem_of_getElem? (i := 35) (by decide +kernel), List.mem_of_getElem? (i := 384) (by decide +kernel), List.mem_of_getElem? (i := 385) (by decide +kernel)⟩
theorem lw_p33 : lw_okq (⟨"PathEditor$Path", "dropNode", "(I)V"⟩, 3) := ⟨⟨by decide +kernel, by decide +kernel⟩, List.mem_of_getElem? (i := 35) (by decide +kernel), List.mem_of_getElem? (i := 393) (by decide +kernel), List.mem_of_getElem? (i := 394) (by decide +kernel)⟩
theorem lw_p34 : lw_okq (⟨"PathEditor$Path", "hasSegmentsAround", "(I)Z"⟩, 3) := ⟨⟨by decide +kernel, by decide +kernel⟩, List.mem_of_getElem? (i := 35) (by decide +kernel), List.mem_of_getElem? (i := 401) (by decide +kernel), List.mem_of_getElem? (i := 402) (by decide +kernel)⟩
theorem lw_p35 : lw_okq (⟨"PathEditor$Path", "openAt", "(I)V"⟩, 3) := ⟨⟨by decide +kernel, by decide +kernel⟩, List.mem_of_getElem? (i := 35) (by decide +kernel), List.mem_of_getElem? (i := 405) (by decide +kernel), List.mem_of_getElem? (i := 406) (by decide +kernel)⟩
theorem lw_p36 : lw_okq (⟨"PathEditor$Path", "addCopy", "(LPathEditor$Path;I)V"⟩, 3) := ⟨⟨by decide +kernel, by decide +kernel⟩, List.mem_of_getElem? (i := 35) (by decide +kernel), List.mem_of_getElem? (i := 409) (by decide +kernel), List.mem_of_getElem? (i := 410) (by decide +kernel)⟩
theorem lw_p37 : lw_okq (⟨"PathEditor$Path", "moveTail", "(ILPathEditor$Path;)V"⟩, 3) := ⟨⟨by decide +kernel, by decide +kernel⟩, List.mem_of_getElem? (i := 35) (by decide +kernel), List.mem_of_getElem? (i := 414) (by decide +kernel), List.mem_of_getElem? (i := 415) (by decide +kernel)⟩
theorem lw_p38 : lw_okq (⟨"PathEditor$Path", "endsWhereStarts", "(LPathEditor$Path;)Z"⟩, 3) := ⟨⟨by decide +kernel, by decide +kernel⟩, List.mem_of_getElem? (i := 35) (by decide +kernel), List.mem_of_getElem? (i := 422) (by decide +kernel), List.mem_of_getElem? (i := 423) (by decide +kernel)⟩
theorem lw_p39 : lw_okq (⟨"PathEditor$Path", "mergeStart", "(LPathEditor$Path;)V"⟩, 3) := ⟨⟨by decide +kernel, by decide +kernel⟩, List.mem_of_getElem? (i := 35) (by decide +kernel), List.mem_of_getElem? (i := 426) (by decide +kernel), List.mem_of_getElem? (i := 427) (by decide +kernel)⟩
theorem lw_p40 : lw_okq (⟨"PathEditor$Path", "handlesFit", "(I)Z"⟩, 3) := ⟨⟨by decide +kernel, by decide +kernel⟩, List.mem_of_getElem? (i := 35) (by decide +kernel), List.mem_of_getElem? (i := 430) (by decide +kernel), List.mem_of_getElem? (i := 431) (by decide +kernel)⟩
theorem lw_p41 : lw_okq (⟨"PathEditor$Path", "addNodesOf", "(LPathEditor$Path;)V"⟩, 3) := ⟨⟨by decide +kernel, by decide +kernel⟩, List.mem_of_getElem? (i := 35) (by decide +kernel), List.mem_of_getElem? (i := 434) (by decide +kernel), List.mem_of_getElem? (i := 435) (by decide +kernel)⟩
theorem lw_p42 : lw_okq (⟨"PathEditor$Path", "turnRound", "()V"⟩, 3) := ⟨⟨by decide +kernel, by decide +kernel⟩, List.mem_of_getElem? (i := 35) (by decide +kernel), List.mem_of_getElem? (i := 442) (by decide +kernel), List.mem_of_getElem? (i := 443) (by decide +kernel)⟩
theorem lw_p43 : lw_okq (⟨"PathEditor$Path", "exchange", "(IIII)V"⟩, 3) := ⟨⟨by decide +kernel, by decide +kernel⟩, List.mem_of_getElem? (i := 35) (by decide +kernel), List.mem_of_getElem? (i := 446) (by decide +kernel), List.mem_of_getElem? (i := 447) (by decide +kernel)⟩
theorem lw_p44 : lw_okq (⟨"PathEditor$Path", "mapNode", "(IJJJJILPathEditor$Limits;)V"⟩, 3) := ⟨⟨by decide +kernel, by decide +kernel⟩, List.mem_of_getElem? (i := 35) (by decide +kernel), List.mem_of_getElem? (i := 457) (by decide +kernel), List.mem_of_getElem? (i := 458) (by decide +kernel)⟩
theorem lw_p45 : lw_okq (⟨"PathEditor$History", "stepBack", "()V"⟩, 5) := ⟨⟨by decide +kernel, by decide +kernel⟩, List.mem_of_getElem? (i := 21) (by decide +kernel), List.mem_of_getElem? (i := 469) (by decide +kernel), List.mem_of_getElem? (i := 470) (by decide +kernel)⟩
theorem lw_p46 : lw_okq (⟨"PathEditor$History", "stepForward", "()V"⟩, 5) := ⟨⟨by decide +kernel, by decide +kernel⟩, List.mem_of_getElem? (i := 21) (by decide +kernel), List.mem_of_getElem? (i := 477) (by decide +kernel), List.mem_of_getElem? (i := 478) (by decide +kernel)⟩
theorem lw_p47 : lw_okq (⟨"PathEditor$Path", "ratioNumber", "(II)I"⟩, 3) := ⟨⟨by decide +kernel, by decide +kernel⟩, List.mem_of_getElem? (i := 35) (by decide +kernel), List.mem_of_getElem? (i := 501) (by decide +kernel), List.mem_of_getElem? (i := 502) (by decide +kernel)⟩
def lw_privs_3 : List (MethodName × Nat) := [(⟨"PathEditor$Path", "scaleRatio", "(III)V"⟩, 3), (⟨"PathEditor$Path", "dropNode", "(I)V"⟩, 3), (⟨"PathEditor$Path", "hasSegmentsAround", "(I)Z"⟩, 3), (⟨"PathEditor$Path", "openAt", "(I)V"⟩, 3), (⟨"PathEditor$Path", "addCopy", "(LPathEditor$Path;I)V"⟩, 3), (⟨"PathEditor$Path", "moveTail", "(ILPathEditor$Path;)V"⟩, 3), (⟨"PathEditor$Path", "endsWhereStarts", "(LPathEditor$Path;)Z"⟩, 3), (⟨"PathEditor$Path", "mergeStart", "(LPathEditor$Path;)V"⟩, 3), (⟨"PathEditor$Path", "handlesFit", "(I)Z"⟩, 3), (⟨"PathEditor$Path", "addNodesOf", "(LPathEditor$Path;)V"⟩, 3), (⟨"PathEditor$Path", "turnRound", "()V"⟩, 3), (⟨"PathEditor$Path", "exchange", "(IIII)V"⟩, 3), (⟨"PathEditor$Path", "mapNode", "(IJJJJILPathEditor$Limits;)V"⟩, 3), (⟨"PathEditor$History", "stepBack", "()V"⟩, 5), (⟨"PathEditor$History", "stepForward", "()V"⟩, 5), (⟨"PathEditor$Path", "ratioNumber", "(II)I"⟩, 3)]
theorem lw_r3 : ∀ q ∈ lw_privs_3, lw_okq q := List.forall_mem_cons.mpr ⟨lw_p32, List.forall_mem_cons.mpr ⟨lw_p33, List.forall_mem_cons.mpr ⟨lw_p34, List.forall_mem_cons.mpr ⟨lw_p35, List.forall_mem_cons.mpr ⟨lw_p36, List.forall_mem_cons.mpr ⟨lw_p37, List.forall_mem_cons.mpr ⟨lw_p38, List.forall_mem_cons.mpr ⟨lw_p39, List.forall_mem_cons.mpr ⟨lw_p40, List.forall_mem_cons.mpr ⟨lw_p41, List.forall_mem_cons.mpr ⟨lw_p42, List.forall_mem_cons.mpr ⟨lw_p43, List.forall_mem_cons.mpr ⟨lw_p44, List.forall_mem_cons.mpr ⟨lw_p45, List.forall_mem_cons.mpr ⟨lw_p46, List.forall_mem_cons.mpr ⟨lw_p47, fun _ h => absurd h List.not_mem_nil⟩⟩⟩⟩⟩⟩⟩⟩⟩⟩⟩⟩⟩⟩⟩⟩
theorem lw_p48 : lw_okq (⟨"PathEditor$Path", "sixtyAreas", "()J"⟩, 3) := ⟨⟨by decide +kernel, by decide +kernel⟩, List.mem_of_getElem? (i := 35) (by decide +kernel), List.mem_of_getElem? (i := 518) (by decide +kernel), List.mem_of_getElem? (i := 519) (by decide +kernel)⟩
theorem lw_p49 : lw_okq (⟨"PathEditor$Path", "control", "(III)I"⟩, 3) := ⟨⟨by decide +kernel, by decide +kernel⟩, List.mem_of_getElem? (i := 35) (by decide +kernel), List.mem_of_getElem? (i := 524) (by decide +kernel), List.mem_of_getElem? (i := 525) (by decide +kernel)⟩
theorem lw_p50 : lw_okq (⟨"PathEditor$Path", "extreme", "(IZ)I"⟩, 3) := ⟨⟨by decide +kernel, by decide +kernel⟩, List.mem_of_getElem? (i := 35) (by decide +kernel), List.mem_of_getElem? (i := 533) (by decide +kernel), List.mem_of_getElem? (i := 534) (by decide +kernel)⟩
theorem lw_p51 : lw_okq (⟨"PathEditor$Path", "nodeAt", "(II)I"⟩, 3) := ⟨⟨by decide +kernel, by decide +kernel⟩, List.mem_of_getElem? (i := 35) (by decide +kernel), List.mem_of_getElem? (i := 545) (by decide +kernel), List.mem_of_getElem? (i := 546) (by decide +kernel)⟩
theorem lw_p52 : lw_okq (⟨"PathEditor$Text", "addByte", "(I)V"⟩, 7) := ⟨⟨by decide +kernel, by decide +kernel⟩, List.mem_of_getElem? (i := 120) (by decide +kernel), List.mem_of_getElem? (i := 558) (by decide +kernel), List.mem_of_getElem? (i := 559) (by decide +kernel)⟩
theorem lw_p53 : lw_okq (⟨"PathEditor$Text", "parse", "()V"⟩, 7) := ⟨⟨by decide +kernel, by decide +kernel⟩, List.mem_of_getElem? (i := 120) (by decide +kernel), List.mem_of_getElem? (i := 570) (by decide +kernel), List.mem_of_getElem? (i := 571) (by decide +kernel)⟩
theorem lw_p54 : lw_okq (⟨"PathEditor$Text", "takeByte", "(I)V"⟩, 7) := ⟨⟨by decide +kernel, by decide +kernel⟩, List.mem_of_getElem? (i := 120) (by decide +kernel), List.mem_of_getElem? (i := 576) (by decide +kernel), List.mem_of_getElem? (i := 577) (by decide +kernel)⟩
theorem lw_p55 : lw_okq (⟨"PathEditor$Text", "nextByte", "()I"⟩, 7) := ⟨⟨by decide +kernel, by decide +kernel⟩, List.mem_of_getElem? (i := 120) (by decide +kernel), List.mem_of_getElem? (i := 580) (by decide +kernel), List.mem_of_getElem? (i := 581) (by decide +kernel)⟩
theorem lw_p56 : lw_okq (⟨"PathEditor$Text", "stopAt", "(I)V"⟩, 7) := ⟨⟨by decide +kernel, by decide +kernel⟩, List.mem_of_getElem? (i := 120) (by decide +kernel), List.mem_of_getElem? (i := 584) (by decide +kernel), List.mem_of_getElem? (i := 585) (by decide +kernel)⟩
theorem lw_p57 : lw_okq (⟨"PathEditor$Text", "takeLine", "()V"⟩, 7) := ⟨⟨by decide +kernel, by decide +kernel⟩, List.mem_of_getElem? (i := 120) (by decide +kernel), List.mem_of_getElem? (i := 588) (by decide +kernel), List.mem_of_getElem? (i := 589) (by decide +kernel)⟩
theorem lw_p58 : lw_okq (⟨"PathEditor$Text", "takeNumber", "(I)I"⟩, 7) := ⟨⟨by decide +kernel, by decide +kernel⟩, List.mem_of_getElem? (i := 120) (by decide +kernel), List.mem_of_getElem? (i := 592) (by decide +kernel), List.mem_of_getElem? (i := 593) (by decide +kernel)⟩
theorem lw_p59 : lw_okq (⟨"PathEditor$Text", "takeDigits", "()I"⟩, 7) := ⟨⟨by decide +kernel, by decide +kernel⟩, List.mem_of_getElem? (i := 120) (by decide +kernel), List.mem_of_getElem? (i := 596) (by decide +kernel), List.mem_of_getElem? (i := 597) (by decide +kernel)⟩
theorem lw_p60 : lw_okq (⟨"PathEditor$Text", "takeSegment", "()V"⟩, 7) := ⟨⟨by decide +kernel, by decide +kernel⟩, List.mem_of_getElem? (i := 120) (by decide +kernel), List.mem_of_getElem? (i := 606) (by decide +kernel), List.mem_of_getElem? (i := 607) (by decide +kernel)⟩
theorem lw_p61 : lw_okq (⟨"PathEditor$Text", "takeCurve", "()V"⟩, 7) := ⟨⟨by decide +kernel, by decide +kernel⟩, List.mem_of_getElem? (i := 120) (by decide +kernel), List.mem_of_getElem? (i := 610) (by decide +kernel), List.mem_of_getElem? (i := 611) (by decide +kernel)⟩
theorem lw_p62 : lw_okq (⟨"PathEditor$Path", "isStraight", "(I)Z"⟩, 3) := ⟨⟨by decide +kernel, by decide +kernel⟩, List.mem_of_getElem? (i := 35) (by decide +kernel), List.mem_of_getElem? (i := 632) (by decide +kernel), List.mem_of_getElem? (i := 633) (by decide +kernel)⟩
theorem lw_p63 : lw_okq (⟨"PathEditor$Sheet", "show", "(LPathEditor$Path;)V"⟩, 2) := ⟨⟨by decide +kernel, by decide +kernel⟩, List.mem_of_getElem? (i := 154) (by decide +kernel), List.mem_of_getElem? (i := 637) (by decide +kernel), List.mem_of_getElem? (i := 638) (by decide +kernel)⟩
def lw_privs_4 : List (MethodName × Nat) := [(⟨"PathEditor$Path", "sixtyAreas", "()J"⟩, 3), (⟨"PathEditor$Path", "control", "(III)I"⟩, 3), (⟨"PathEditor$Path", "extreme", "(IZ)I"⟩, 3), (⟨"PathEditor$Path", "nodeAt", "(II)I"⟩, 3), (⟨"PathEditor$Text", "addByte", "(I)V"⟩, 7), (⟨"PathEditor$Text", "parse", "()V"⟩, 7), (⟨"PathEditor$Text", "takeByte", "(I)V"⟩, 7), (⟨"PathEditor$Text", "nextByte", "()I"⟩, 7), (⟨"PathEditor$Text", "stopAt", "(I)V"⟩, 7), (⟨"PathEditor$Text", "takeLine", "()V"⟩, 7), (⟨"PathEditor$Text", "takeNumber", "(I)I"⟩, 7), (⟨"PathEditor$Text", "takeDigits", "()I"⟩, 7), (⟨"PathEditor$Text", "takeSegment", "()V"⟩, 7), (⟨"PathEditor$Text", "takeCurve", "()V"⟩, 7), (⟨"PathEditor$Path", "isStraight", "(I)Z"⟩, 3), (⟨"PathEditor$Sheet", "show", "(LPathEditor$Path;)V"⟩, 2)]
theorem lw_r4 : ∀ q ∈ lw_privs_4, lw_okq q := List.forall_mem_cons.mpr ⟨lw_p48, List.forall_mem_cons.mpr ⟨lw_p49, List.forall_mem_cons.mpr ⟨lw_p50, List.forall_mem_cons.mpr ⟨lw_p51, List.forall_mem_cons.mpr ⟨lw_p52, List.forall_mem_cons.mpr ⟨lw_p53, List.forall_mem_cons.mpr ⟨lw_p54, List.forall_mem_cons.mpr ⟨lw_p55, List.forall_mem_cons.mpr ⟨lw_p56, List.forall_mem_cons.mpr ⟨lw_p57, List.forall_mem_cons.mpr ⟨lw_p58, List.forall_mem_cons.mpr ⟨lw_p59, List.forall_mem_cons.mpr ⟨lw_p60, List.forall_mem_cons.mpr ⟨lw_p61, List.forall_mem_cons.mpr ⟨lw_p62, List.forall_mem_cons.mpr ⟨lw_p63, fun _ h => absurd h List.not_mem_nil⟩⟩⟩⟩⟩⟩⟩⟩⟩⟩⟩⟩⟩⟩⟩⟩
theorem lw_p64 : lw_okq (⟨"PathEditor$Sheet", "putByte", "(I)V"⟩, 2) := ⟨⟨by decide +kernel, by decide +kernel⟩, List.mem_of_getElem? (i := 154) (by decide +kernel), List.mem_of_getElem? (i := 641) (by decide +kernel), List.mem_of_getElem? (i := 642) (by decide +kernel)⟩
theorem lw_p65 : lw_okq (⟨"PathEditor$Sheet", "putPoint", "(LPathEditor$Path;II)V"⟩, 2) := ⟨⟨by decide +kernel, by decide +kernel⟩, List.mem_of_getElem? (i := 154) (by decide +kernel), List.mem_of_getElem? (i := 645) (by decide +kernel), List.mem_of_getElem? (i := 646) (by decide +kernel)⟩
theorem lw_p66 : lw_okq (⟨"PathEditor$Sheet", "putNumber", "(I)V"⟩, 2) := ⟨⟨by decide +kernel, by decide +kernel⟩, List.mem_of_getElem? (i := 154) (by decide +kernel), List.mem_of_getElem? (i := 650) (by decide +kernel), List.mem_of_getElem? (i := 651) (by decide +kernel)⟩
theorem lw_p67 : lw_okq (⟨"PathEditor$History", "startAnew", "(LPathEditor$Picture;)V"⟩, 5) := ⟨⟨by decide +kernel, by decide +kernel⟩, List.mem_of_getElem? (i := 21) (by decide +kernel), List.mem_of_getElem? (i := 668) (by decide +kernel), List.mem_of_getElem? (i := 669) (by decide +kernel)⟩
theorem lw_p68 : lw_okq (⟨"PathEditor$Path", "hashOnto", "(J)J"⟩, 3) := ⟨⟨by decide +kernel, by decide +kernel⟩, List.mem_of_getElem? (i := 35) (by decide +kernel), List.mem_of_getElem? (i := 677) (by decide +kernel), List.mem_of_getElem? (i := 678) (by decide +kernel)⟩
theorem lw_p69 : lw_okq (⟨"PathEditorModel", "begins", "()V"⟩, 25) := ⟨⟨by decide +kernel, by decide +kernel⟩, List.mem_of_getElem? (i := 684) (by decide +kernel), List.mem_of_getElem? (i := 778) (by decide +kernel), List.mem_of_getElem? (i := 779) (by decide +kernel)⟩
theorem lw_p70 : lw_okq (⟨"PathEditorModel", "copies", "([II[II)V"⟩, 25) := ⟨⟨by decide +kernel, by decide +kernel⟩, List.mem_of_getElem? (i := 684) (by decide +kernel), List.mem_of_getElem? (i := 782) (by decide +kernel), List.mem_of_getElem? (i := 783) (by decide +kernel)⟩
theorem lw_p71 : lw_okq (⟨"PathEditorModel", "clears", "(IIII)V"⟩, 25) := ⟨⟨by decide +kernel, by decide +kernel⟩, List.mem_of_getElem? (i := 684) (by decide +kernel), List.mem_of_getElem? (i := 790) (by decide +kernel), List.mem_of_getElem? (i := 791) (by decide +kernel)⟩
theorem lw_p72 : lw_okq (⟨"PathEditorModel", "made", "(I)I"⟩, 25) := ⟨⟨by decide +kernel, by decide +kernel⟩, List.mem_of_getElem? (i := 684) (by decide +kernel), List.mem_of_getElem? (i := 797) (by decide +kernel), List.mem_of_getElem? (i := 798) (by decide +kernel)⟩
theorem lw_p73 : lw_okq (⟨"PathEditorModel", "pushes", "([I)V"⟩, 25) := ⟨⟨by decide +kernel, by decide +kernel⟩, List.mem_of_getElem? (i := 684) (by decide +kernel), List.mem_of_getElem? (i := 801) (by decide +kernel), List.mem_of_getElem? (i := 802) (by decide +kernel)⟩
theorem lw_p74 : lw_okq (⟨"PathEditorModel", "isPath", "(I)Z"⟩, 25) := ⟨⟨by decide +kernel, by decide +kernel⟩, List.mem_of_getElem? (i := 684) (by decide +kernel), List.mem_of_getElem? (i := 809) (by decide +kernel), List.mem_of_getElem? (i := 810) (by decide +kernel)⟩
theorem lw_p75 : lw_okq (⟨"PathEditorModel", "isShut", "(I)Z"⟩, 25) := ⟨⟨by decide +kernel, by decide +kernel⟩, List.mem_of_getElem? (i := 684) (by decide +kernel), List.mem_of_getElem? (i := 814) (by decide +kernel), List.mem_of_getElem? (i := 815) (by decide +kernel)⟩
theorem lw_p76 : lw_okq (⟨"PathEditorModel", "many", "(I)I"⟩, 25) := ⟨⟨by decide +kernel, by decide +kernel⟩, List.mem_of_getElem? (i := 684) (by decide +kernel), List.mem_of_getElem? (i := 819) (by decide +kernel), List.mem_of_getElem? (i := 820) (by decide +kernel)⟩
theorem lw_p77 : lw_okq (⟨"PathEditorModel", "removes", "(I)V"⟩, 25) := ⟨⟨by decide +kernel, by decide +kernel⟩, List.mem_of_getElem? (i := 684) (by decide +kernel), List.mem_of_getElem? (i := 827) (by decide +kernel), List.mem_of_getElem? (i := 828) (by decide +kernel)⟩
theorem lw_p78 : lw_okq (⟨"PathEditorModel", "isNode", "(II)Z"⟩, 25) := ⟨⟨by decide +kernel, by decide +kernel⟩, List.mem_of_getElem? (i := 684) (by decide +kernel), List.mem_of_getElem? (i := 835) (by decide +kernel), List.mem_of_getElem? (i := 836) (by decide +kernel)⟩
theorem lw_p79 : lw_okq (⟨"PathEditorModel", "puts", "(IJJ)V"⟩, 25) := ⟨⟨by decide +kernel, by decide +kernel⟩, List.mem_of_getElem? (i := 684) (by decide +kernel), List.mem_of_getElem? (i := 840) (by decide +kernel), List.mem_of_getElem? (i := 841) (by decide +kernel)⟩
def lw_privs_5 : List (MethodName × Nat) := [(⟨"PathEditor$Sheet", "putByte", "(I)V"⟩, 2), (⟨"PathEditor$Sheet", "putPoint", "(LPathEditor$Path;II)V"⟩, 2), (⟨"PathEditor$Sheet", "putNumber", "(I)V"⟩, 2), (⟨"PathEditor$History", "startAnew", "(LPathEditor$Picture;)V"⟩, 5), (⟨"PathEditor$Path", "hashOnto", "(J)J"⟩, 3), (⟨"PathEditorModel", "begins", "()V"⟩, 25), (⟨"PathEditorModel", "copies", "([II[II)V"⟩, 25), (⟨"PathEditorModel", "clears", "(IIII)V"⟩, 25), (⟨"PathEditorModel", "made", "(I)I"⟩, 25), (⟨"PathEditorModel", "pushes", "([I)V"⟩, 25), (⟨"PathEditorModel", "isPath", "(I)Z"⟩, 25), (⟨"PathEditorModel", "isShut", "(I)Z"⟩, 25), (⟨"PathEditorModel", "many", "(I)I"⟩, 25), (⟨"PathEditorModel", "removes", "(I)V"⟩, 25), (⟨"PathEditorModel", "isNode", "(II)Z"⟩, 25), (⟨"PathEditorModel", "puts", "(IJJ)V"⟩, 25)]
theorem lw_r5 : ∀ q ∈ lw_privs_5, lw_okq q := List.forall_mem_cons.mpr ⟨lw_p64, List.forall_mem_cons.mpr ⟨lw_p65, List.forall_mem_cons.mpr ⟨lw_p66, List.forall_mem_cons.mpr ⟨lw_p67, List.forall_mem_cons.mpr ⟨lw_p68, List.forall_mem_cons.mpr ⟨lw_p69, List.forall_mem_cons.mpr ⟨lw_p70, List.forall_mem_cons.mpr ⟨lw_p71, List.forall_mem_cons.mpr ⟨lw_p72, List.forall_mem_cons.mpr ⟨lw_p73, List.forall_mem_cons.mpr ⟨lw_p74, List.forall_mem_cons.mpr ⟨lw_p75, List.forall_mem_cons.mpr ⟨lw_p76, List.forall_mem_cons.mpr ⟨lw_p77, List.forall_mem_cons.mpr ⟨lw_p78, List.forall_mem_cons.mpr ⟨lw_p79, fun _ h => absurd h List.not_mem_nil⟩⟩⟩⟩⟩⟩⟩⟩⟩⟩⟩⟩⟩⟩⟩⟩
theorem lw_p80 : lw_okq (⟨"PathEditorModel", "failed", "(I)I"⟩, 25) := ⟨⟨by decide +kernel, by decide +kernel⟩, List.mem_of_getElem? (i := 684) (by decide +kernel), List.mem_of_getElem? (i := 848) (by decide +kernel), List.mem_of_getElem? (i := 849) (by decide +kernel)⟩
theorem lw_p81 : lw_okq (⟨"PathEditorModel", "isSmooth", "(II)Z"⟩, 25) := ⟨⟨by decide +kernel, by decide +kernel⟩, List.mem_of_getElem? (i := 684) (by decide +kernel), List.mem_of_getElem? (i := 856) (by decide +kernel), List.mem_of_getElem? (i := 857) (by decide +kernel)⟩
theorem lw_p82 : lw_okq (⟨"PathEditorModel", "follows", "(IIZ)V"⟩, 25) := ⟨⟨by decide +kernel, by decide +kernel⟩, List.mem_of_getElem? (i := 684) (by decide +kernel), List.mem_of_getElem? (i := 860) (by decide +kernel), List.mem_of_getElem? (i := 861) (by decide +kernel)⟩
theorem lw_p83 : lw_okq (⟨"PathEditorModel", "sets", "(IIII)V"⟩, 25) := ⟨⟨by decide +kernel, by decide +kernel⟩, List.mem_of_getElem? (i := 684) (by decide +kernel), List.mem_of_getElem? (i := 868) (by decide +kernel), List.mem_of_getElem? (i := 869) (by decide +kernel)⟩
theorem lw_p84 : lw_okq (⟨"PathEditorModel", "isSegment", "(II)Z"⟩, 25) := ⟨⟨by decide +kernel, by decide +kernel⟩, List.mem_of_getElem? (i := 684) (by decide +kernel), List.mem_of_getElem? (i := 883) (by decide +kernel), List.mem_of_getElem? (i := 884) (by decide +kernel)⟩
theorem lw_p85 : lw_okq (⟨"PathEditorModel", "segments", "(I)I"⟩, 25) := ⟨⟨by decide +kernel, by decide +kernel⟩, List.mem_of_getElem? (i := 684) (by decide +kernel), List.mem_of_getElem? (i := 887) (by decide +kernel), List.mem_of_getElem? (i := 888) (by decide +kernel)⟩
theorem lw_p86 : lw_okq (⟨"PathEditorModel", "controls", "(II)V"⟩, 25) := ⟨⟨by decide +kernel, by decide +kernel⟩, List.mem_of_getElem? (i := 684) (by decide +kernel), List.mem_of_getElem? (i := 891) (by decide +kernel), List.mem_of_getElem? (i := 892) (by decide +kernel)⟩
theorem lw_p87 : lw_okq (⟨"PathEditorModel", "makesRoom", "(II)V"⟩, 25) := ⟨⟨by decide +kernel, by decide +kernel⟩, List.mem_of_getElem? (i := 684) (by decide +kernel), List.mem_of_getElem? (i := 895) (by decide +kernel), List.mem_of_getElem? (i := 896) (by decide +kernel)⟩
theorem lw_p88 : lw_okq (⟨"PathEditorModel", "copiesNode", "(IIII)V"⟩, 25) := ⟨⟨by decide +kernel, by decide +kernel⟩, List.mem_of_getElem? (i := 684) (by decide +kernel), List.mem_of_getElem? (i := 899) (by decide +kernel), List.mem_of_getElem? (i := 900) (by decide +kernel)⟩
theorem lw_p89 : lw_okq (⟨"PathEditorModel", "splits", "(IIIIII)V"⟩, 25) := ⟨⟨by decide +kernel, by decide +kernel⟩, List.mem_of_getElem? (i := 684) (by decide +kernel), List.mem_of_getElem? (i := 903) (by decide +kernel), List.mem_of_getElem? (i := 904) (by decide +kernel)⟩
theorem lw_p90 : lw_okq (⟨"PathEditorModel", "rows", "(IIII)V"⟩, 25) := ⟨⟨by decide +kernel, by decide +kernel⟩, List.mem_of_getElem? (i := 684) (by decide +kernel), List.mem_of_getElem? (i := 918) (by decide +kernel), List.mem_of_getElem? (i := 919) (by decide +kernel)⟩
theorem lw_p91 : lw_okq (⟨"PathEditorModel", "unrows", "(II)V"⟩, 25) := ⟨⟨by decide +kernel, by decide +kernel⟩, List.mem_of_getElem? (i := 684) (by decide +kernel), List.mem_of_getElem? (i := 922) (by decide +kernel), List.mem_of_getElem? (i := 923) (by decide +kernel)⟩
theorem lw_p92 : lw_okq (⟨"PathEditorModel", "meet", "(II)Z"⟩, 25) := ⟨⟨by decide +kernel, by decide +kernel⟩, List.mem_of_getElem? (i := 684) (by decide +kernel), List.mem_of_getElem? (i := 930) (by decide +kernel), List.mem_of_getElem? (i := 931) (by decide +kernel)⟩
theorem lw_p93 : lw_okq (⟨"PathEditorModel", "unites", "(II)V"⟩, 25) := ⟨⟨by decide +kernel, by decide +kernel⟩, List.mem_of_getElem? (i := 684) (by decide +kernel), List.mem_of_getElem? (i := 934) (by decide +kernel), List.mem_of_getElem? (i := 935) (by decide +kernel)⟩
theorem lw_p94 : lw_okq (⟨"PathEditorModel", "swaps", "(II)V"⟩, 25) := ⟨⟨by decide +kernel, by decide +kernel⟩, List.mem_of_getElem? (i := 684) (by decide +kernel), List.mem_of_getElem? (i := 942) (by decide +kernel), List.mem_of_getElem? (i := 943) (by decide +kernel)⟩
theorem lw_p95 : lw_okq (⟨"PathEditorModel", "transforms", "(IIIIII)V"⟩, 25) := ⟨⟨by decide +kernel, by decide +kernel⟩, List.mem_of_getElem? (i := 684) (by decide +kernel), List.mem_of_getElem? (i := 950) (by decide +kernel), List.mem_of_getElem? (i := 951) (by decide +kernel)⟩
def lw_privs_6 : List (MethodName × Nat) := [(⟨"PathEditorModel", "failed", "(I)I"⟩, 25), (⟨"PathEditorModel", "isSmooth", "(II)Z"⟩, 25), (⟨"PathEditorModel", "follows", "(IIZ)V"⟩, 25), (⟨"PathEditorModel", "sets", "(IIII)V"⟩, 25), (⟨"PathEditorModel", "isSegment", "(II)Z"⟩, 25), (⟨"PathEditorModel", "segments", "(I)I"⟩, 25), (⟨"PathEditorModel", "controls", "(II)V"⟩, 25), (⟨"PathEditorModel", "makesRoom", "(II)V"⟩, 25), (⟨"PathEditorModel", "copiesNode", "(IIII)V"⟩, 25), (⟨"PathEditorModel", "splits", "(IIIIII)V"⟩, 25), (⟨"PathEditorModel", "rows", "(IIII)V"⟩, 25), (⟨"PathEditorModel", "unrows", "(II)V"⟩, 25), (⟨"PathEditorModel", "meet", "(II)Z"⟩, 25), (⟨"PathEditorModel", "unites", "(II)V"⟩, 25), (⟨"PathEditorModel", "swaps", "(II)V"⟩, 25), (⟨"PathEditorModel", "transforms", "(IIIIII)V"⟩, 25)]
theorem lw_r6 : ∀ q ∈ lw_privs_6, lw_okq q := List.forall_mem_cons.mpr ⟨lw_p80, List.forall_mem_cons.mpr ⟨lw_p81, List.forall_mem_cons.mpr ⟨lw_p82, List.forall_mem_cons.mpr ⟨lw_p83, List.forall_mem_cons.mpr ⟨lw_p84, List.forall_mem_cons.mpr ⟨lw_p85, List.forall_mem_cons.mpr ⟨lw_p86, List.forall_mem_cons.mpr ⟨lw_p87, List.forall_mem_cons.mpr ⟨lw_p88, List.forall_mem_cons.mpr ⟨lw_p89, List.forall_mem_cons.mpr ⟨lw_p90, List.forall_mem_cons.mpr ⟨lw_p91, List.forall_mem_cons.mpr ⟨lw_p92, List.forall_mem_cons.mpr ⟨lw_p93, List.forall_mem_cons.mpr ⟨lw_p94, List.forall_mem_cons.mpr ⟨lw_p95, fun _ h => absurd h List.not_mem_nil⟩⟩⟩⟩⟩⟩⟩⟩⟩⟩⟩⟩⟩⟩⟩⟩
theorem lw_p96 : lw_okq (⟨"PathEditorModel", "areaOf", "(I)J"⟩, 25) := ⟨⟨by decide +kernel, by decide +kernel⟩, List.mem_of_getElem? (i := 684) (by decide +kernel), List.mem_of_getElem? (i := 996) (by decide +kernel), List.mem_of_getElem? (i := 997) (by decide +kernel)⟩
theorem lw_p97 : lw_okq (⟨"PathEditorModel", "integral", "(II)J"⟩, 25) := ⟨⟨by decide +kernel, by decide +kernel⟩, List.mem_of_getElem? (i := 684) (by decide +kernel), List.mem_of_getElem? (i := 1000) (by decide +kernel), List.mem_of_getElem? (i := 1001) (by decide +kernel)⟩
theorem lw_p98 : lw_okq (⟨"PathEditorModel", "isText", "()Z"⟩, 25) := ⟨⟨by decide +kernel, by decide +kernel⟩, List.mem_of_getElem? (i := 684) (by decide +kernel), List.mem_of_getElem? (i := 1032) (by decide +kernel), List.mem_of_getElem? (i := 1033) (by decide +kernel)⟩
theorem lw_p99 : lw_okq (⟨"PathEditorModel", "takes", "(I)Z"⟩, 25) := ⟨⟨by decide +kernel, by decide +kernel⟩, List.mem_of_getElem? (i := 684) (by decide +kernel), List.mem_of_getElem? (i := 1036) (by decide +kernel), List.mem_of_getElem? (i := 1037) (by decide +kernel)⟩
theorem lw_p100 : lw_okq (⟨"PathEditorModel", "here", "()I"⟩, 25) := ⟨⟨by decide +kernel, by decide +kernel⟩, List.mem_of_getElem? (i := 684) (by decide +kernel), List.mem_of_getElem? (i := 1040) (by decide +kernel), List.mem_of_getElem? (i := 1041) (by decide +kernel)⟩
theorem lw_p101 : lw_okq (⟨"PathEditorModel", "position", "(II)Z"⟩, 25) := ⟨⟨by decide +kernel, by decide +kernel⟩, List.mem_of_getElem? (i := 684) (by decide +kernel), List.mem_of_getElem? (i := 1044) (by decide +kernel), List.mem_of_getElem? (i := 1045) (by decide +kernel)⟩
theorem lw_p102 : lw_okq (⟨"PathEditorModel", "number", "(I)Z"⟩, 25) := ⟨⟨by decide +kernel, by decide +kernel⟩, List.mem_of_getElem? (i := 684) (by decide +kernel), List.mem_of_getElem? (i := 1048) (by decide +kernel), List.mem_of_getElem? (i := 1049) (by decide +kernel)⟩
theorem lw_p103 : lw_okq (⟨"PathEditorModel", "isDigit", "()Z"⟩, 25) := ⟨⟨by decide +kernel, by decide +kernel⟩, List.mem_of_getElem? (i := 684) (by decide +kernel), List.mem_of_getElem? (i := 1052) (by decide +kernel), List.mem_of_getElem? (i := 1053) (by decide +kernel)⟩
theorem lw_p104 : lw_okq (⟨"PathEditorModel", "tells", "(II)V"⟩, 25) := ⟨⟨by decide +kernel, by decide +kernel⟩, List.mem_of_getElem? (i := 684) (by decide +kernel), List.mem_of_getElem? (i := 1057) (by decide +kernel), List.mem_of_getElem? (i := 1058) (by decide +kernel)⟩
theorem lw_p105 : lw_okq (⟨"PathEditorModel", "isNext", "()Z"⟩, 25) := ⟨⟨by decide +kernel, by decide +kernel⟩, List.mem_of_getElem? (i := 684) (by decide +kernel), List.mem_of_getElem? (i := 1061) (by decide +kernel), List.mem_of_getElem? (i := 1062) (by decide +kernel)⟩
theorem lw_p106 : lw_okq (⟨"PathEditorModel", "curve", "()Z"⟩, 25) := ⟨⟨by decide +kernel, by decide +kernel⟩, List.mem_of_getElem? (i := 684) (by decide +kernel), List.mem_of_getElem? (i := 1065) (by decide +kernel), List.mem_of_getElem? (i := 1066) (by decide +kernel)⟩
theorem lw_p107 : lw_okq (⟨"PathEditorModel", "sign", "(I)V"⟩, 25) := ⟨⟨by decide +kernel, by decide +kernel⟩, List.mem_of_getElem? (i := 684) (by decide +kernel), List.mem_of_getElem? (i := 1077) (by decide +kernel), List.mem_of_getElem? (i := 1078) (by decide +kernel)⟩
theorem lw_p108 : lw_okq (⟨"PathEditorModel", "writes", "(I)V"⟩, 25) := ⟨⟨by decide +kernel, by decide +kernel⟩, List.mem_of_getElem? (i := 684) (by decide +kernel), List.mem_of_getElem? (i := 1081) (by decide +kernel), List.mem_of_getElem? (i := 1082) (by decide +kernel)⟩
theorem lw_p109 : lw_okq (⟨"PathEditorModel", "isLine", "(II)Z"⟩, 25) := ⟨⟨by decide +kernel, by decide +kernel⟩, List.mem_of_getElem? (i := 684) (by decide +kernel), List.mem_of_getElem? (i := 1085) (by decide +kernel), List.mem_of_getElem? (i := 1086) (by decide +kernel)⟩
theorem lw_p110 : lw_okq (⟨"PathEditorModel", "writesPoint", "(I)V"⟩, 25) := ⟨⟨by decide +kernel, by decide +kernel⟩, List.mem_of_getElem? (i := 684) (by decide +kernel), List.mem_of_getElem? (i := 1089) (by decide +kernel), List.mem_of_getElem? (i := 1090) (by decide +kernel)⟩
def lw_privs_7 : List (MethodName × Nat) := [(⟨"PathEditorModel", "areaOf", "(I)J"⟩, 25), (⟨"PathEditorModel", "integral", "(II)J"⟩, 25), (⟨"PathEditorModel", "isText", "()Z"⟩, 25), (⟨"PathEditorModel", "takes", "(I)Z"⟩, 25), (⟨"PathEditorModel", "here", "()I"⟩, 25), (⟨"PathEditorModel", "position", "(II)Z"⟩, 25), (⟨"PathEditorModel", "number", "(I)Z"⟩, 25), (⟨"PathEditorModel", "isDigit", "()Z"⟩, 25), (⟨"PathEditorModel", "tells", "(II)V"⟩, 25), (⟨"PathEditorModel", "isNext", "()Z"⟩, 25), (⟨"PathEditorModel", "curve", "()Z"⟩, 25), (⟨"PathEditorModel", "sign", "(I)V"⟩, 25), (⟨"PathEditorModel", "writes", "(I)V"⟩, 25), (⟨"PathEditorModel", "isLine", "(II)Z"⟩, 25), (⟨"PathEditorModel", "writesPoint", "(I)V"⟩, 25)]
theorem lw_r7 : ∀ q ∈ lw_privs_7, lw_okq q := List.forall_mem_cons.mpr ⟨lw_p96, List.forall_mem_cons.mpr ⟨lw_p97, List.forall_mem_cons.mpr ⟨lw_p98, List.forall_mem_cons.mpr ⟨lw_p99, List.forall_mem_cons.mpr ⟨lw_p100, List.forall_mem_cons.mpr ⟨lw_p101, List.forall_mem_cons.mpr ⟨lw_p102, List.forall_mem_cons.mpr ⟨lw_p103, List.forall_mem_cons.mpr ⟨lw_p104, List.forall_mem_cons.mpr ⟨lw_p105, List.forall_mem_cons.mpr ⟨lw_p106, List.forall_mem_cons.mpr ⟨lw_p107, List.forall_mem_cons.mpr ⟨lw_p108, List.forall_mem_cons.mpr ⟨lw_p109, List.forall_mem_cons.mpr ⟨lw_p110, fun _ h => absurd h List.not_mem_nil⟩⟩⟩⟩⟩⟩⟩⟩⟩⟩⟩⟩⟩⟩⟩
def lw_privs : List (MethodName × Nat) := lw_privs_1 ++ (lw_privs_2 ++ (lw_privs_3 ++ (lw_privs_4 ++ (lw_privs_5 ++ (lw_privs_6 ++ (lw_privs_7))))))
def lw_tbl : List Cond := k2_sels lw_privs ++ tables_1
theorem lw_privs_ok : ∀ q ∈ lw_privs, lw_okq q := by
  show ∀ q ∈ lw_privs_1 ++ (lw_privs_2 ++ (lw_privs_3 ++ (lw_privs_4 ++ (lw_privs_5 ++ (lw_privs_6 ++ (lw_privs_7)))))), lw_okq q
  exact List.forall_mem_append.mpr ⟨lw_r1, List.forall_mem_append.mpr ⟨lw_r2, List.forall_mem_append.mpr ⟨lw_r3, List.forall_mem_append.mpr ⟨lw_r4, List.forall_mem_append.mpr ⟨lw_r5, List.forall_mem_append.mpr ⟨lw_r6, lw_r7⟩⟩⟩⟩⟩⟩
end
section
def RX0 : String := "PathEditor$Cut"
def TX0 : u_T := fun k => match k with
  | 0 => ("PathEditor$Cut", "r0", "J", false)
  | 1 => ("PathEditor$Cut", "r1", "J", false)
  | _ => ("PathEditor$Cut", "s", "J", false)
def tyX0 : Nat → FieldType := fun k => match k with
  | 0 => .long
  | 1 => .long
  | _ => .long
abbrev wsX00 : List Cond := u_ws RX0 TX0 3
theorem nmX0 : ∀ a, a < 3 → ∀ b, b < 3 → a ≠ b → (TX0 a).2.1 ≠ (TX0 b).2.1 := by decide +kernel
theorem tyX0_ok : ∀ k, k < 3 → parseFieldDescriptor (TX0 k).2.2.1 = some (tyX0 k) := by decide +kernel
abbrev cX0_init : ByteArray := prog_2_method_1_code
def yX0_init : MethodName := ⟨RX0, "<init>", "()V"⟩
abbrev cX0_make : ByteArray := prog_2_method_2_code
def yX0_make : MethodName := ⟨RX0, "make", "(LPathEditor$Path;IIIII)V"⟩
def RX1 : String := "PathEditor$History"
def TX1 : u_T := fun k => match k with
  | 0 => ("PathEditor$History", "ring", "[LPathEditor$Picture;", true)
  | 1 => ("PathEditor$History", "draft", "LPathEditor$Picture;", false)
  | 2 => ("PathEditor$History", "present", "I", false)
  | 3 => ("PathEditor$History", "past", "I", false)
  | _ => ("PathEditor$History", "future", "I", false)
def tyX1 : Nat → FieldType := fun k => match k with
  | 0 => .array (.object "PathEditor$Picture")
  | 1 => .object "PathEditor$Picture"
  | 2 => .int
  | 3 => .int
  | _ => .int
abbrev wsX10 : List Cond := u_ws RX1 TX1 5
theorem nmX1 : ∀ a, a < 5 → ∀ b, b < 5 → a ≠ b → (TX1 a).2.1 ≠ (TX1 b).2.1 := by decide +kernel
theorem tyX1_ok : ∀ k, k < 5 → parseFieldDescriptor (TX1 k).2.2.1 = some (tyX1 k) := by decide +kernel
abbrev cX1_init : ByteArray := prog_3_method_1_code
def yX1_init : MethodName := ⟨RX1, "<init>", "()V"⟩
abbrev cX1_now : ByteArray := prog_3_method_2_code
def yX1_now : MethodName := ⟨RX1, "now", "()LPathEditor$Picture;"⟩
abbrev cX1_draftOfNow : ByteArray := prog_3_method_3_code
def yX1_draftOfNow : MethodName := ⟨RX1, "draftOfNow", "()LPathEditor$Picture;"⟩
abbrev cX1_takeDraft : ByteArray := prog_3_method_4_code
def yX1_takeDraft : MethodName := ⟨RX1, "takeDraft", "()V"⟩
abbrev cX1_stepBack : ByteArray := prog_3_method_5_code
def yX1_stepBack : MethodName := ⟨RX1, "stepBack", "()V"⟩
abbrev cX1_stepForward : ByteArray := prog_3_method_6_code
def yX1_stepForward : MethodName := ⟨RX1, "stepForward", "()V"⟩
abbrev cX1_startAnew : ByteArray := prog_3_method_7_code
def yX1_startAnew : MethodName := ⟨RX1, "startAnew", "(LPathEditor$Picture;)V"⟩
def RX2 : String := "PathEditor$Limits"
def TX2 : u_T := fun k => match k with
  | 0 => ("PathEditor$Limits", "inexact", "Z", false)
  | _ => ("PathEditor$Limits", "tooGreat", "Z", false)
def tyX2 : Nat → FieldType := fun k => match k with
  | 0 => .boolean
  | _ => .boolean
abbrev wsX20 : List Cond := u_ws RX2 TX2 2
theorem nmX2 : ∀ a, a < 2 → ∀ b, b < 2 → a ≠ b → (TX2 a).2.1 ≠ (TX2 b).2.1 := by decide +kernel
theorem tyX2_ok : ∀ k, k < 2 → parseFieldDescriptor (TX2 k).2.2.1 = some (tyX2 k) := by decide +kernel
abbrev cX2_init : ByteArray := prog_4_method_1_code
def yX2_init : MethodName := ⟨RX2, "<init>", "()V"⟩
abbrev cX2_start : ByteArray := prog_4_method_2_code
def yX2_start : MethodName := ⟨RX2, "start", "()V"⟩
abbrev cX2_quotient : ByteArray := prog_4_method_3_code
def yX2_quotient : MethodName := ⟨RX2, "quotient", "(JJ)I"⟩
abbrev cX2_error : ByteArray := prog_4_method_4_code
def yX2_error : MethodName := ⟨RX2, "error", "()I"⟩
def RX3 : String := "PathEditor$Path"
def TX3 : u_T := fun k => match k with
  | 0 => ("PathEditor$Path", "row", "[I", true)
  | 1 => ("PathEditor$Path", "size", "I", false)
  | _ => ("PathEditor$Path", "closed", "Z", false)
def tyX3 : Nat → FieldType := fun k => match k with
  | 0 => .array .int
  | 1 => .int
  | _ => .boolean
abbrev wsX30 : List Cond := u_ws RX3 TX3 3
theorem nmX3 : ∀ a, a < 3 → ∀ b, b < 3 → a ≠ b → (TX3 a).2.1 ≠ (TX3 b).2.1 := by decide +kernel
theorem tyX3_ok : ∀ k, k < 3 → parseFieldDescriptor (TX3 k).2.2.1 = some (tyX3 k) := by decide +kernel
abbrev cX3_init : ByteArray := prog_5_method_1_code
def yX3_init : MethodName := ⟨RX3, "<init>", "()V"⟩
abbrev cX3_copyFrom : ByteArray := prog_5_method_2_code
def yX3_copyFrom : MethodName := ⟨RX3, "copyFrom", "(LPathEditor$Path;)V"⟩
abbrev cX3_makeEmpty : ByteArray := prog_5_method_3_code
def yX3_makeEmpty : MethodName := ⟨RX3, "makeEmpty", "()V"⟩
abbrev cX3_hasNode : ByteArray := prog_5_method_4_code
def yX3_hasNode : MethodName := ⟨RX3, "hasNode", "(I)Z"⟩
abbrev cX3_hasSegment : ByteArray := prog_5_method_5_code
def yX3_hasSegment : MethodName := ⟨RX3, "hasSegment", "(I)Z"⟩
abbrev cX3_segmentCount : ByteArray := prog_5_method_6_code
def yX3_segmentCount : MethodName := ⟨RX3, "segmentCount", "()I"⟩
abbrev cX3_hasSegmentsAround : ByteArray := prog_5_method_7_code
def yX3_hasSegmentsAround : MethodName := ⟨RX3, "hasSegmentsAround", "(I)Z"⟩
abbrev cX3_endOf : ByteArray := prog_5_method_8_code
def yX3_endOf : MethodName := ⟨RX3, "endOf", "(I)I"⟩
abbrev cX3_get : ByteArray := prog_5_method_9_code
def yX3_get : MethodName := ⟨RX3, "get", "(II)I"⟩
abbrev cX3_put : ByteArray := prog_5_method_10_code
def yX3_put : MethodName := ⟨RX3, "put", "(III)V"⟩
abbrev cX3_isZero : ByteArray := prog_5_method_11_code
def yX3_isZero : MethodName := ⟨RX3, "isZero", "(II)Z"⟩
abbrev cX3_isSmooth : ByteArray := prog_5_method_12_code
def yX3_isSmooth : MethodName := ⟨RX3, "isSmooth", "(I)Z"⟩
abbrev cX3_ratioNumber : ByteArray := prog_5_method_13_code
def yX3_ratioNumber : MethodName := ⟨RX3, "ratioNumber", "(II)I"⟩
abbrev cX3_makeCorner : ByteArray := prog_5_method_14_code
def yX3_makeCorner : MethodName := ⟨RX3, "makeCorner", "(I)V"⟩
abbrev cX3_putRatio : ByteArray := prog_5_method_15_code
def yX3_putRatio : MethodName := ⟨RX3, "putRatio", "(III)V"⟩
abbrev cX3_greatestDivisor : ByteArray := prog_5_method_16_code
def yX3_greatestDivisor : MethodName := ⟨RX3, "greatestDivisor", "(II)I"⟩
abbrev cX3_fitHandle : ByteArray := prog_5_method_17_code
def yX3_fitHandle : MethodName := ⟨RX3, "fitHandle", "(IZLPathEditor$Limits;)V"⟩
abbrev cX3_handlesFit : ByteArray := prog_5_method_18_code
def yX3_handlesFit : MethodName := ⟨RX3, "handlesFit", "(I)Z"⟩
abbrev cX3_moveBy : ByteArray := prog_5_method_19_code
def yX3_moveBy : MethodName := ⟨RX3, "moveBy", "(IIILPathEditor$Limits;)V"⟩
abbrev cX3_addCorner : ByteArray := prog_5_method_20_code
def yX3_addCorner : MethodName := ⟨RX3, "addCorner", "(II)V"⟩
abbrev cX3_copyNode : ByteArray := prog_5_method_21_code
def yX3_copyNode : MethodName := ⟨RX3, "copyNode", "(ILPathEditor$Path;I)V"⟩
abbrev cX3_addCopy : ByteArray := prog_5_method_22_code
def yX3_addCopy : MethodName := ⟨RX3, "addCopy", "(LPathEditor$Path;I)V"⟩
abbrev cX3_addNodesOf : ByteArray := prog_5_method_23_code
def yX3_addNodesOf : MethodName := ⟨RX3, "addNodesOf", "(LPathEditor$Path;)V"⟩
abbrev cX3_dropNode : ByteArray := prog_5_method_24_code
def yX3_dropNode : MethodName := ⟨RX3, "dropNode", "(I)V"⟩
abbrev cX3_doubleNode : ByteArray := prog_5_method_25_code
def yX3_doubleNode : MethodName := ⟨RX3, "doubleNode", "(I)V"⟩
abbrev cX3_cutSegment : ByteArray := prog_5_method_26_code
def yX3_cutSegment : MethodName := ⟨RX3, "cutSegment", "(IIILPathEditor$Cut;LPathEditor$Limits;)V"⟩
abbrev cX3_scaleHandle : ByteArray := prog_5_method_27_code
def yX3_scaleHandle : MethodName := ⟨RX3, "scaleHandle", "(IIIILPathEditor$Limits;)V"⟩
abbrev cX3_scaleRatio : ByteArray := prog_5_method_28_code
def yX3_scaleRatio : MethodName := ⟨RX3, "scaleRatio", "(III)V"⟩
abbrev cX3_openAt : ByteArray := prog_5_method_29_code
def yX3_openAt : MethodName := ⟨RX3, "openAt", "(I)V"⟩
abbrev cX3_moveTail : ByteArray := prog_5_method_30_code
def yX3_moveTail : MethodName := ⟨RX3, "moveTail", "(ILPathEditor$Path;)V"⟩
abbrev cX3_endsWhereStarts : ByteArray := prog_5_method_31_code
def yX3_endsWhereStarts : MethodName := ⟨RX3, "endsWhereStarts", "(LPathEditor$Path;)Z"⟩
abbrev cX3_mergeStart : ByteArray := prog_5_method_32_code
def yX3_mergeStart : MethodName := ⟨RX3, "mergeStart", "(LPathEditor$Path;)V"⟩
abbrev cX3_turnRound : ByteArray := prog_5_method_33_code
def yX3_turnRound : MethodName := ⟨RX3, "turnRound", "()V"⟩
abbrev cX3_exchange : ByteArray := prog_5_method_34_code
def yX3_exchange : MethodName := ⟨RX3, "exchange", "(IIII)V"⟩
abbrev cX3_mapNode : ByteArray := prog_5_method_35_code
def yX3_mapNode : MethodName := ⟨RX3, "mapNode", "(IJJJJILPathEditor$Limits;)V"⟩
abbrev cX3_control : ByteArray := prog_5_method_36_code
def yX3_control : MethodName := ⟨RX3, "control", "(III)I"⟩
abbrev cX3_isStraight : ByteArray := prog_5_method_37_code
def yX3_isStraight : MethodName := ⟨RX3, "isStraight", "(I)Z"⟩
abbrev cX3_sixtyAreas : ByteArray := prog_5_method_38_code
def yX3_sixtyAreas : MethodName := ⟨RX3, "sixtyAreas", "()J"⟩
abbrev cX3_extreme : ByteArray := prog_5_method_39_code
def yX3_extreme : MethodName := ⟨RX3, "extreme", "(IZ)I"⟩
abbrev cX3_nodeAt : ByteArray := prog_5_method_40_code
def yX3_nodeAt : MethodName := ⟨RX3, "nodeAt", "(II)I"⟩
abbrev cX3_hashOnto : ByteArray := prog_5_method_41_code
def yX3_hashOnto : MethodName := ⟨RX3, "hashOnto", "(J)J"⟩
def RX4 : String := "PathEditor$Picture"
def TX4 : u_T := fun k => match k with
  | 0 => ("PathEditor$Picture", "list", "[LPathEditor$Path;", true)
  | _ => ("PathEditor$Picture", "count", "I", false)
def tyX4 : Nat → FieldType := fun k => match k with
  | 0 => .array (.object "PathEditor$Path")
  | _ => .int
abbrev wsX40 : List Cond := u_ws RX4 TX4 2
theorem nmX4 : ∀ a, a < 2 → ∀ b, b < 2 → a ≠ b → (TX4 a).2.1 ≠ (TX4 b).2.1 := by decide +kernel
theorem tyX4_ok : ∀ k, k < 2 → parseFieldDescriptor (TX4 k).2.2.1 = some (tyX4 k) := by decide +kernel
abbrev cX4_init : ByteArray := prog_6_method_1_code
def yX4_init : MethodName := ⟨RX4, "<init>", "()V"⟩
abbrev cX4_copyFrom : ByteArray := prog_6_method_2_code
def yX4_copyFrom : MethodName := ⟨RX4, "copyFrom", "(LPathEditor$Picture;)V"⟩
abbrev cX4_pathAt : ByteArray := prog_6_method_3_code
def yX4_pathAt : MethodName := ⟨RX4, "pathAt", "(I)LPathEditor$Path;"⟩
abbrev cX4_newPath : ByteArray := prog_6_method_4_code
def yX4_newPath : MethodName := ⟨RX4, "newPath", "()LPathEditor$Path;"⟩
abbrev cX4_dropPath : ByteArray := prog_6_method_5_code
def yX4_dropPath : MethodName := ⟨RX4, "dropPath", "(I)V"⟩
def RX5 : String := "PathEditor$Sheet"
def TX5 : u_T := fun k => match k with
  | 0 => ("PathEditor$Sheet", "row", "[B", true)
  | _ => ("PathEditor$Sheet", "length", "I", false)
def tyX5 : Nat → FieldType := fun k => match k with
  | 0 => .array .byte
  | _ => .int
abbrev wsX50 : List Cond := u_ws RX5 TX5 2
theorem nmX5 : ∀ a, a < 2 → ∀ b, b < 2 → a ≠ b → (TX5 a).2.1 ≠ (TX5 b).2.1 := by decide +kernel
theorem tyX5_ok : ∀ k, k < 2 → parseFieldDescriptor (TX5 k).2.2.1 = some (tyX5 k) := by decide +kernel
abbrev cX5_init : ByteArray := prog_7_method_1_code
def yX5_init : MethodName := ⟨RX5, "<init>", "()V"⟩
abbrev cX5_canShow : ByteArray := prog_7_method_2_code
def yX5_canShow : MethodName := ⟨RX5, "canShow", "(LPathEditor$Path;)Z"⟩
abbrev cX5_isWhole : ByteArray := prog_7_method_3_code
def yX5_isWhole : MethodName := ⟨RX5, "isWhole", "(LPathEditor$Path;II)Z"⟩
abbrev cX5_show : ByteArray := prog_7_method_4_code
def yX5_show : MethodName := ⟨RX5, "show", "(LPathEditor$Path;)V"⟩
abbrev cX5_putPoint : ByteArray := prog_7_method_5_code
def yX5_putPoint : MethodName := ⟨RX5, "putPoint", "(LPathEditor$Path;II)V"⟩
abbrev cX5_putNumber : ByteArray := prog_7_method_6_code
def yX5_putNumber : MethodName := ⟨RX5, "putNumber", "(I)V"⟩
abbrev cX5_putByte : ByteArray := prog_7_method_7_code
def yX5_putByte : MethodName := ⟨RX5, "putByte", "(I)V"⟩
def RX6 : String := "PathEditor$Text"
def TX6 : u_T := fun k => match k with
  | 0 => ("PathEditor$Text", "row", "[B", true)
  | 1 => ("PathEditor$Text", "length", "I", false)
  | 2 => ("PathEditor$Text", "at", "I", false)
  | 3 => ("PathEditor$Text", "fault", "I", false)
  | 4 => ("PathEditor$Text", "found", "LPathEditor$Path;", true)
  | 5 => ("PathEditor$Text", "x", "I", false)
  | _ => ("PathEditor$Text", "y", "I", false)
def tyX6 : Nat → FieldType := fun k => match k with
  | 0 => .array .byte
  | 1 => .int
  | 2 => .int
  | 3 => .int
  | 4 => .object "PathEditor$Path"
  | 5 => .int
  | _ => .int
abbrev wsX60 : List Cond := u_ws RX6 TX6 7
theorem nmX6 : ∀ a, a < 7 → ∀ b, b < 7 → a ≠ b → (TX6 a).2.1 ≠ (TX6 b).2.1 := by decide +kernel
theorem tyX6_ok : ∀ k, k < 7 → parseFieldDescriptor (TX6 k).2.2.1 = some (tyX6 k) := by decide +kernel
abbrev cX6_init : ByteArray := prog_8_method_1_code
def yX6_init : MethodName := ⟨RX6, "<init>", "()V"⟩
abbrev cX6_addByte : ByteArray := prog_8_method_2_code
def yX6_addByte : MethodName := ⟨RX6, "addByte", "(I)V"⟩
abbrev cX6_parse : ByteArray := prog_8_method_3_code
def yX6_parse : MethodName := ⟨RX6, "parse", "()V"⟩
abbrev cX6_nextByte : ByteArray := prog_8_method_4_code
def yX6_nextByte : MethodName := ⟨RX6, "nextByte", "()I"⟩
abbrev cX6_stopAt : ByteArray := prog_8_method_5_code
def yX6_stopAt : MethodName := ⟨RX6, "stopAt", "(I)V"⟩
abbrev cX6_takeByte : ByteArray := prog_8_method_6_code
def yX6_takeByte : MethodName := ⟨RX6, "takeByte", "(I)V"⟩
abbrev cX6_takeSegment : ByteArray := prog_8_method_7_code
def yX6_takeSegment : MethodName := ⟨RX6, "takeSegment", "()V"⟩
abbrev cX6_takeCurve : ByteArray := prog_8_method_8_code
def yX6_takeCurve : MethodName := ⟨RX6, "takeCurve", "()V"⟩
abbrev cX6_takeLine : ByteArray := prog_8_method_9_code
def yX6_takeLine : MethodName := ⟨RX6, "takeLine", "()V"⟩
abbrev cX6_takeNumber : ByteArray := prog_8_method_10_code
def yX6_takeNumber : MethodName := ⟨RX6, "takeNumber", "(I)I"⟩
abbrev cX6_takeDigits : ByteArray := prog_8_method_11_code
def yX6_takeDigits : MethodName := ⟨RX6, "takeDigits", "()I"⟩
def RX7 : String := "PathEditor"
def TX7 : u_T := fun k => match k with
  | 0 => ("PathEditor", "history", "LPathEditor$History;", true)
  | 1 => ("PathEditor", "slots", "[LPathEditor$Picture;", true)
  | 2 => ("PathEditor", "saved", "[Z", true)
  | 3 => ("PathEditor", "limits", "LPathEditor$Limits;", true)
  | 4 => ("PathEditor", "cut", "LPathEditor$Cut;", true)
  | 5 => ("PathEditor", "text", "LPathEditor$Text;", true)
  | _ => ("PathEditor", "sheet", "LPathEditor$Sheet;", true)
def tyX7 : Nat → FieldType := fun k => match k with
  | 0 => .object "PathEditor$History"
  | 1 => .array (.object "PathEditor$Picture")
  | 2 => .array .boolean
  | 3 => .object "PathEditor$Limits"
  | 4 => .object "PathEditor$Cut"
  | 5 => .object "PathEditor$Text"
  | _ => .object "PathEditor$Sheet"
abbrev wsX70 : List Cond := u_ws RX7 TX7 7
theorem nmX7 : ∀ a, a < 7 → ∀ b, b < 7 → a ≠ b → (TX7 a).2.1 ≠ (TX7 b).2.1 := by decide +kernel
theorem tyX7_ok : ∀ k, k < 7 → parseFieldDescriptor (TX7 k).2.2.1 = some (tyX7 k) := by decide +kernel
abbrev cX7_init : ByteArray := prog_1_method_1_code
def yX7_init : MethodName := ⟨RX7, "<init>", "()V"⟩
abbrev cX7_addPath : ByteArray := prog_1_method_2_code
def yX7_addPath : MethodName := ⟨RX7, "addPath", "(II)I"⟩
abbrev cX7_extend : ByteArray := prog_1_method_3_code
def yX7_extend : MethodName := ⟨RX7, "extend", "(III)I"⟩
abbrev cX7_removePath : ByteArray := prog_1_method_4_code
def yX7_removePath : MethodName := ⟨RX7, "removePath", "(I)I"⟩
abbrev cX7_moveNode : ByteArray := prog_1_method_5_code
def yX7_moveNode : MethodName := ⟨RX7, "moveNode", "(IIII)I"⟩
abbrev cX7_setHandle : ByteArray := prog_1_method_6_code
def yX7_setHandle : MethodName := ⟨RX7, "setHandle", "(IIZII)I"⟩
abbrev cX7_setSmooth : ByteArray := prog_1_method_7_code
def yX7_setSmooth : MethodName := ⟨RX7, "setSmooth", "(IIII)I"⟩
abbrev cX7_setCorner : ByteArray := prog_1_method_8_code
def yX7_setCorner : MethodName := ⟨RX7, "setCorner", "(II)I"⟩
abbrev cX7_insert : ByteArray := prog_1_method_9_code
def yX7_insert : MethodName := ⟨RX7, "insert", "(IIII)I"⟩
abbrev cX7_removeNode : ByteArray := prog_1_method_10_code
def yX7_removeNode : MethodName := ⟨RX7, "removeNode", "(II)I"⟩
abbrev cX7_split : ByteArray := prog_1_method_11_code
def yX7_split : MethodName := ⟨RX7, "split", "(II)I"⟩
abbrev cX7_join : ByteArray := prog_1_method_12_code
def yX7_join : MethodName := ⟨RX7, "join", "(II)I"⟩
abbrev cX7_reverse : ByteArray := prog_1_method_13_code
def yX7_reverse : MethodName := ⟨RX7, "reverse", "(I)I"⟩
abbrev cX7_transform : ByteArray := prog_1_method_14_code
def yX7_transform : MethodName := ⟨RX7, "transform", "(IIIIII)I"⟩
abbrev cX7_shift : ByteArray := prog_1_method_15_code
def yX7_shift : MethodName := ⟨RX7, "shift", "(III)I"⟩
abbrev cX7_undo : ByteArray := prog_1_method_16_code
def yX7_undo : MethodName := ⟨RX7, "undo", "()I"⟩
abbrev cX7_redo : ByteArray := prog_1_method_17_code
def yX7_redo : MethodName := ⟨RX7, "redo", "()I"⟩
abbrev cX7_paths : ByteArray := prog_1_method_18_code
def yX7_paths : MethodName := ⟨RX7, "paths", "()I"⟩
abbrev cX7_nodes : ByteArray := prog_1_method_19_code
def yX7_nodes : MethodName := ⟨RX7, "nodes", "(I)I"⟩
abbrev cX7_isClosed : ByteArray := prog_1_method_20_code
def yX7_isClosed : MethodName := ⟨RX7, "isClosed", "(I)I"⟩
abbrev cX7_coordinate : ByteArray := prog_1_method_21_code
def yX7_coordinate : MethodName := ⟨RX7, "coordinate", "(III)I"⟩
abbrev cX7_ratio : ByteArray := prog_1_method_22_code
def yX7_ratio : MethodName := ⟨RX7, "ratio", "(IIZ)I"⟩
abbrev cX7_point : ByteArray := prog_1_method_23_code
def yX7_point : MethodName := ⟨RX7, "point", "(IIIIZ)I"⟩
abbrev cX7_area : ByteArray := prog_1_method_24_code
def yX7_area : MethodName := ⟨RX7, "area", "(I)J"⟩
abbrev cX7_box : ByteArray := prog_1_method_25_code
def yX7_box : MethodName := ⟨RX7, "box", "(II)I"⟩
abbrev cX7_find : ByteArray := prog_1_method_26_code
def yX7_find : MethodName := ⟨RX7, "find", "(II)I"⟩
abbrev cX7_corners : ByteArray := prog_1_method_27_code
def yX7_corners : MethodName := ⟨RX7, "corners", "(I)I"⟩
abbrev cX7_append : ByteArray := prog_1_method_28_code
def yX7_append : MethodName := ⟨RX7, "append", "(I)I"⟩
abbrev cX7_clearText : ByteArray := prog_1_method_29_code
def yX7_clearText : MethodName := ⟨RX7, "clearText", "()I"⟩
abbrev cX7_faultPosition : ByteArray := prog_1_method_30_code
def yX7_faultPosition : MethodName := ⟨RX7, "faultPosition", "()I"⟩
abbrev cX7_read : ByteArray := prog_1_method_31_code
def yX7_read : MethodName := ⟨RX7, "read", "()I"⟩
abbrev cX7_print : ByteArray := prog_1_method_32_code
def yX7_print : MethodName := ⟨RX7, "print", "(I)I"⟩
abbrev cX7_printed : ByteArray := prog_1_method_33_code
def yX7_printed : MethodName := ⟨RX7, "printed", "(I)I"⟩
abbrev cX7_save : ByteArray := prog_1_method_34_code
def yX7_save : MethodName := ⟨RX7, "save", "(I)I"⟩
abbrev cX7_restore : ByteArray := prog_1_method_35_code
def yX7_restore : MethodName := ⟨RX7, "restore", "(I)I"⟩
abbrev cX7_checksum : ByteArray := prog_1_method_36_code
def yX7_checksum : MethodName := ⟨RX7, "checksum", "()J"⟩
abbrev cX7_startChange : ByteArray := prog_1_method_37_code
def yX7_startChange : MethodName := ⟨RX7, "startChange", "()LPathEditor$Picture;"⟩
abbrev cX7_endChange : ByteArray := prog_1_method_38_code
def yX7_endChange : MethodName := ⟨RX7, "endChange", "(I)I"⟩
abbrev cX7_isBetween : ByteArray := prog_1_method_39_code
def yX7_isBetween : MethodName := ⟨RX7, "isBetween", "(III)Z"⟩
abbrev cX7_isLength : ByteArray := prog_1_method_40_code
def yX7_isLength : MethodName := ⟨RX7, "isLength", "(I)Z"⟩
abbrev cX7_isFactor : ByteArray := prog_1_method_41_code
def yX7_isFactor : MethodName := ⟨RX7, "isFactor", "(I)Z"⟩
def RX8 : String := "PathEditorModel"
def TX8 : u_T := fun k => match k with
  | 0 => ("PathEditorModel", "v", "[I", true)
  | 1 => ("PathEditorModel", "spare", "[I", true)
  | 2 => ("PathEditorModel", "past", "[I", true)
  | 3 => ("PathEditorModel", "pasts", "I", false)
  | 4 => ("PathEditorModel", "ahead", "[I", true)
  | 5 => ("PathEditorModel", "aheads", "I", false)
  | 6 => ("PathEditorModel", "kept", "[I", true)
  | 7 => ("PathEditorModel", "isKept", "[Z", true)
  | 8 => ("PathEditorModel", "text", "[I", true)
  | 9 => ("PathEditorModel", "length", "I", false)
  | 10 => ("PathEditorModel", "paper", "[I", true)
  | 11 => ("PathEditorModel", "printed", "I", false)
  | 12 => ("PathEditorModel", "trouble", "I", false)
  | 13 => ("PathEditorModel", "c", "[I", true)
  | 14 => ("PathEditorModel", "row", "[I", true)
  | 15 => ("PathEditorModel", "place", "I", false)
  | 16 => ("PathEditorModel", "told", "[I", true)
  | 17 => ("PathEditorModel", "tellings", "I", false)
  | 18 => ("PathEditorModel", "isShutText", "Z", false)
  | 19 => ("PathEditorModel", "number", "I", false)
  | 20 => ("PathEditorModel", "readX", "I", false)
  | 21 => ("PathEditorModel", "readY", "I", false)
  | 22 => ("PathEditorModel", "draft", "[I", true)
  | 23 => ("PathEditorModel", "drafted", "I", false)
  | _ => ("PathEditorModel", "isWhole", "Z", false)
def tyX8 : Nat → FieldType := fun k => match k with
  | 0 => .array .int
  | 1 => .array .int
  | 2 => .array .int
  | 3 => .int
  | 4 => .array .int
  | 5 => .int
  | 6 => .array .int
  | 7 => .array .boolean
  | 8 => .array .int
  | 9 => .int
  | 10 => .array .int
  | 11 => .int
  | 12 => .int
  | 13 => .array .int
  | 14 => .array .int
  | 15 => .int
  | 16 => .array .int
  | 17 => .int
  | 18 => .boolean
  | 19 => .int
  | 20 => .int
  | 21 => .int
  | 22 => .array .int
  | 23 => .int
  | _ => .boolean
abbrev wsX80 : List Cond := u_ws RX8 TX8 25
theorem nmX8 : ∀ a, a < 25 → ∀ b, b < 25 → a ≠ b → (TX8 a).2.1 ≠ (TX8 b).2.1 := by decide +kernel
theorem tyX8_ok : ∀ k, k < 25 → parseFieldDescriptor (TX8 k).2.2.1 = some (tyX8 k) := by decide +kernel
abbrev cX8_init : ByteArray := prog_10_method_1_code
def yX8_init : MethodName := ⟨RX8, "<init>", "()V"⟩
abbrev cX8_in : ByteArray := prog_10_method_3_code
def yX8_in : MethodName := ⟨RX8, "in", "(III)Z"⟩
abbrev cX8_isUnits : ByteArray := prog_10_method_4_code
def yX8_isUnits : MethodName := ⟨RX8, "isUnits", "(II)Z"⟩
abbrev cX8_divisor : ByteArray := prog_10_method_5_code
def yX8_divisor : MethodName := ⟨RX8, "divisor", "(II)I"⟩
abbrev cX8_path : ByteArray := prog_10_method_6_code
def yX8_path : MethodName := ⟨RX8, "path", "(I)I"⟩
abbrev cX8_many : ByteArray := prog_10_method_7_code
def yX8_many : MethodName := ⟨RX8, "many", "(I)I"⟩
abbrev cX8_isShut : ByteArray := prog_10_method_8_code
def yX8_isShut : MethodName := ⟨RX8, "isShut", "(I)Z"⟩
abbrev cX8_node : ByteArray := prog_10_method_9_code
def yX8_node : MethodName := ⟨RX8, "node", "(III)I"⟩
abbrev cX8_isPath : ByteArray := prog_10_method_10_code
def yX8_isPath : MethodName := ⟨RX8, "isPath", "(I)Z"⟩
abbrev cX8_isNode : ByteArray := prog_10_method_11_code
def yX8_isNode : MethodName := ⟨RX8, "isNode", "(II)Z"⟩
abbrev cX8_segments : ByteArray := prog_10_method_12_code
def yX8_segments : MethodName := ⟨RX8, "segments", "(I)I"⟩
abbrev cX8_isSegment : ByteArray := prog_10_method_13_code
def yX8_isSegment : MethodName := ⟨RX8, "isSegment", "(II)Z"⟩
abbrev cX8_copies : ByteArray := prog_10_method_14_code
def yX8_copies : MethodName := ⟨RX8, "copies", "([II[II)V"⟩
abbrev cX8_begins : ByteArray := prog_10_method_15_code
def yX8_begins : MethodName := ⟨RX8, "begins", "()V"⟩
abbrev cX8_pushes : ByteArray := prog_10_method_16_code
def yX8_pushes : MethodName := ⟨RX8, "pushes", "([I)V"⟩
abbrev cX8_made : ByteArray := prog_10_method_17_code
def yX8_made : MethodName := ⟨RX8, "made", "(I)I"⟩
abbrev cX8_failed : ByteArray := prog_10_method_18_code
def yX8_failed : MethodName := ⟨RX8, "failed", "(I)I"⟩
abbrev cX8_puts : ByteArray := prog_10_method_19_code
def yX8_puts : MethodName := ⟨RX8, "puts", "(IJJ)V"⟩
abbrev cX8_clears : ByteArray := prog_10_method_20_code
def yX8_clears : MethodName := ⟨RX8, "clears", "(IIII)V"⟩
abbrev cX8_copiesNode : ByteArray := prog_10_method_21_code
def yX8_copiesNode : MethodName := ⟨RX8, "copiesNode", "(IIII)V"⟩
abbrev cX8_isSmooth : ByteArray := prog_10_method_22_code
def yX8_isSmooth : MethodName := ⟨RX8, "isSmooth", "(II)Z"⟩
abbrev cX8_sets : ByteArray := prog_10_method_23_code
def yX8_sets : MethodName := ⟨RX8, "sets", "(IIII)V"⟩
abbrev cX8_follows : ByteArray := prog_10_method_24_code
def yX8_follows : MethodName := ⟨RX8, "follows", "(IIZ)V"⟩
abbrev cX8_addPath : ByteArray := prog_10_method_25_code
def yX8_addPath : MethodName := ⟨RX8, "addPath", "(II)I"⟩
abbrev cX8_extend : ByteArray := prog_10_method_26_code
def yX8_extend : MethodName := ⟨RX8, "extend", "(III)I"⟩
abbrev cX8_removes : ByteArray := prog_10_method_27_code
def yX8_removes : MethodName := ⟨RX8, "removes", "(I)V"⟩
abbrev cX8_removePath : ByteArray := prog_10_method_28_code
def yX8_removePath : MethodName := ⟨RX8, "removePath", "(I)I"⟩
abbrev cX8_moveNode : ByteArray := prog_10_method_29_code
def yX8_moveNode : MethodName := ⟨RX8, "moveNode", "(IIII)I"⟩
abbrev cX8_setHandle : ByteArray := prog_10_method_30_code
def yX8_setHandle : MethodName := ⟨RX8, "setHandle", "(IIZII)I"⟩
abbrev cX8_setSmooth : ByteArray := prog_10_method_31_code
def yX8_setSmooth : MethodName := ⟨RX8, "setSmooth", "(IIII)I"⟩
abbrev cX8_setCorner : ByteArray := prog_10_method_32_code
def yX8_setCorner : MethodName := ⟨RX8, "setCorner", "(II)I"⟩
abbrev cX8_controls : ByteArray := prog_10_method_33_code
def yX8_controls : MethodName := ⟨RX8, "controls", "(II)V"⟩
abbrev cX8_between : ByteArray := prog_10_method_34_code
def yX8_between : MethodName := ⟨RX8, "between", "(JJII)J"⟩
abbrev cX8_makesRoom : ByteArray := prog_10_method_35_code
def yX8_makesRoom : MethodName := ⟨RX8, "makesRoom", "(II)V"⟩
abbrev cX8_splits : ByteArray := prog_10_method_36_code
def yX8_splits : MethodName := ⟨RX8, "splits", "(IIIIII)V"⟩
abbrev cX8_insert : ByteArray := prog_10_method_37_code
def yX8_insert : MethodName := ⟨RX8, "insert", "(IIII)I"⟩
abbrev cX8_removeNode : ByteArray := prog_10_method_38_code
def yX8_removeNode : MethodName := ⟨RX8, "removeNode", "(II)I"⟩
abbrev cX8_rows : ByteArray := prog_10_method_39_code
def yX8_rows : MethodName := ⟨RX8, "rows", "(IIII)V"⟩
abbrev cX8_unrows : ByteArray := prog_10_method_40_code
def yX8_unrows : MethodName := ⟨RX8, "unrows", "(II)V"⟩
abbrev cX8_split : ByteArray := prog_10_method_41_code
def yX8_split : MethodName := ⟨RX8, "split", "(II)I"⟩
abbrev cX8_meet : ByteArray := prog_10_method_42_code
def yX8_meet : MethodName := ⟨RX8, "meet", "(II)Z"⟩
abbrev cX8_unites : ByteArray := prog_10_method_43_code
def yX8_unites : MethodName := ⟨RX8, "unites", "(II)V"⟩
abbrev cX8_join : ByteArray := prog_10_method_44_code
def yX8_join : MethodName := ⟨RX8, "join", "(II)I"⟩
abbrev cX8_swaps : ByteArray := prog_10_method_45_code
def yX8_swaps : MethodName := ⟨RX8, "swaps", "(II)V"⟩
abbrev cX8_reverse : ByteArray := prog_10_method_46_code
def yX8_reverse : MethodName := ⟨RX8, "reverse", "(I)I"⟩
abbrev cX8_transforms : ByteArray := prog_10_method_47_code
def yX8_transforms : MethodName := ⟨RX8, "transforms", "(IIIIII)V"⟩
abbrev cX8_transform : ByteArray := prog_10_method_48_code
def yX8_transform : MethodName := ⟨RX8, "transform", "(IIIIII)I"⟩
abbrev cX8_shift : ByteArray := prog_10_method_49_code
def yX8_shift : MethodName := ⟨RX8, "shift", "(III)I"⟩
abbrev cX8_undo : ByteArray := prog_10_method_50_code
def yX8_undo : MethodName := ⟨RX8, "undo", "()I"⟩
abbrev cX8_redo : ByteArray := prog_10_method_51_code
def yX8_redo : MethodName := ⟨RX8, "redo", "()I"⟩
abbrev cX8_paths : ByteArray := prog_10_method_52_code
def yX8_paths : MethodName := ⟨RX8, "paths", "()I"⟩
abbrev cX8_nodes : ByteArray := prog_10_method_53_code
def yX8_nodes : MethodName := ⟨RX8, "nodes", "(I)I"⟩
abbrev cX8_isClosed : ByteArray := prog_10_method_54_code
def yX8_isClosed : MethodName := ⟨RX8, "isClosed", "(I)I"⟩
abbrev cX8_coordinate : ByteArray := prog_10_method_55_code
def yX8_coordinate : MethodName := ⟨RX8, "coordinate", "(III)I"⟩
abbrev cX8_ratio : ByteArray := prog_10_method_56_code
def yX8_ratio : MethodName := ⟨RX8, "ratio", "(IIZ)I"⟩
abbrev cX8_point : ByteArray := prog_10_method_57_code
def yX8_point : MethodName := ⟨RX8, "point", "(IIIIZ)I"⟩
abbrev cX8_binomial : ByteArray := prog_10_method_58_code
def yX8_binomial : MethodName := ⟨RX8, "binomial", "(II)I"⟩
abbrev cX8_integral : ByteArray := prog_10_method_59_code
def yX8_integral : MethodName := ⟨RX8, "integral", "(II)J"⟩
abbrev cX8_areaOf : ByteArray := prog_10_method_60_code
def yX8_areaOf : MethodName := ⟨RX8, "areaOf", "(I)J"⟩
abbrev cX8_area : ByteArray := prog_10_method_61_code
def yX8_area : MethodName := ⟨RX8, "area", "(I)J"⟩
abbrev cX8_box : ByteArray := prog_10_method_62_code
def yX8_box : MethodName := ⟨RX8, "box", "(II)I"⟩
abbrev cX8_find : ByteArray := prog_10_method_63_code
def yX8_find : MethodName := ⟨RX8, "find", "(II)I"⟩
abbrev cX8_corners : ByteArray := prog_10_method_64_code
def yX8_corners : MethodName := ⟨RX8, "corners", "(I)I"⟩
abbrev cX8_append : ByteArray := prog_10_method_65_code
def yX8_append : MethodName := ⟨RX8, "append", "(I)I"⟩
abbrev cX8_clearText : ByteArray := prog_10_method_66_code
def yX8_clearText : MethodName := ⟨RX8, "clearText", "()I"⟩
abbrev cX8_here : ByteArray := prog_10_method_67_code
def yX8_here : MethodName := ⟨RX8, "here", "()I"⟩
abbrev cX8_takes : ByteArray := prog_10_method_68_code
def yX8_takes : MethodName := ⟨RX8, "takes", "(I)Z"⟩
abbrev cX8_isDigit : ByteArray := prog_10_method_69_code
def yX8_isDigit : MethodName := ⟨RX8, "isDigit", "()Z"⟩
abbrev cX8_number : ByteArray := prog_10_method_70_code
def yX8_number : MethodName := ⟨RX8, "number", "(I)Z"⟩
abbrev cX8_position : ByteArray := prog_10_method_71_code
def yX8_position : MethodName := ⟨RX8, "position", "(II)Z"⟩
abbrev cX8_tells : ByteArray := prog_10_method_72_code
def yX8_tells : MethodName := ⟨RX8, "tells", "(II)V"⟩
abbrev cX8_curve : ByteArray := prog_10_method_73_code
def yX8_curve : MethodName := ⟨RX8, "curve", "()Z"⟩
abbrev cX8_isNext : ByteArray := prog_10_method_74_code
def yX8_isNext : MethodName := ⟨RX8, "isNext", "()Z"⟩
abbrev cX8_isText : ByteArray := prog_10_method_75_code
def yX8_isText : MethodName := ⟨RX8, "isText", "()Z"⟩
abbrev cX8_faultPosition : ByteArray := prog_10_method_76_code
def yX8_faultPosition : MethodName := ⟨RX8, "faultPosition", "()I"⟩
abbrev cX8_read : ByteArray := prog_10_method_77_code
def yX8_read : MethodName := ⟨RX8, "read", "()I"⟩
abbrev cX8_sign : ByteArray := prog_10_method_78_code
def yX8_sign : MethodName := ⟨RX8, "sign", "(I)V"⟩
abbrev cX8_writes : ByteArray := prog_10_method_79_code
def yX8_writes : MethodName := ⟨RX8, "writes", "(I)V"⟩
abbrev cX8_writesPoint : ByteArray := prog_10_method_80_code
def yX8_writesPoint : MethodName := ⟨RX8, "writesPoint", "(I)V"⟩
abbrev cX8_isLine : ByteArray := prog_10_method_81_code
def yX8_isLine : MethodName := ⟨RX8, "isLine", "(II)Z"⟩
abbrev cX8_print : ByteArray := prog_10_method_82_code
def yX8_print : MethodName := ⟨RX8, "print", "(I)I"⟩
abbrev cX8_printed : ByteArray := prog_10_method_83_code
def yX8_printed : MethodName := ⟨RX8, "printed", "(I)I"⟩
abbrev cX8_save : ByteArray := prog_10_method_84_code
def yX8_save : MethodName := ⟨RX8, "save", "(I)I"⟩
abbrev cX8_restore : ByteArray := prog_10_method_85_code
def yX8_restore : MethodName := ⟨RX8, "restore", "(I)I"⟩
abbrev cX8_more : ByteArray := prog_10_method_86_code
def yX8_more : MethodName := ⟨RX8, "more", "(JJ)J"⟩
abbrev cX8_checksum : ByteArray := prog_10_method_87_code
def yX8_checksum : MethodName := ⟨RX8, "checksum", "()J"⟩
def RL : String := "PathEditorLaw"
abbrev cL_law : ByteArray := code
def yL_law : MethodName := ⟨RL, "law", "([I)Z"⟩
abbrev vwCl : List vw_C := [(RX0, TX0, 3), (RX1, TX1, 5), (RX2, TX2, 2), (RX3, TX3, 3), (RX4, TX4, 2), (RX5, TX5, 2), (RX6, TX6, 7), (RX7, TX7, 7), (RX8, TX8, 25)]
end
section
theorem dX0_init_0 : decode cX0_init 0 = .ok (.aload_n 0, 1) := by decide +kernel
theorem dX0_init_1 : decode cX0_init 1 = .ok (.invokespecial 3, 3) := by decide +kernel
theorem dX0_init_4 : decode cX0_init 4 = .ok (.return_, 1) := by decide +kernel
theorem dX0_make_0 : decode cX0_make 0 = .ok (.aload_n 1, 1) := by decide +kernel
theorem dX0_make_1 : decode cX0_make 1 = .ok (.iload_n 2, 1) := by decide +kernel
theorem dX0_make_2 : decode cX0_make 2 = .ok (.iconst 0, 1) := by decide +kernel
theorem dX0_make_3 : decode cX0_make 3 = .ok (.iload 4, 2) := by decide +kernel
theorem dX0_make_5 : decode cX0_make 5 = .ok (.iadd, 1) := by decide +kernel
theorem dX0_make_6 : decode cX0_make 6 = .ok (.invokevirtual 9, 3) := by decide +kernel
theorem dX0_make_9 : decode cX0_make 9 = .ok (.i2l, 1) := by decide +kernel
theorem dX0_make_10 : decode cX0_make 10 = .ok (.lstore 7, 2) := by decide +kernel
theorem dX0_make_12 : decode cX0_make 12 = .ok (.lload 7, 2) := by decide +kernel
theorem dX0_make_14 : decode cX0_make 14 = .ok (.aload_n 1, 1) := by decide +kernel
theorem dX0_make_15 : decode cX0_make 15 = .ok (.iload_n 2, 1) := by decide +kernel
theorem dX0_make_16 : decode cX0_make 16 = .ok (.iconst 4, 1) := by decide +kernel
theorem dX0_make_17 : decode cX0_make 17 = .ok (.iload 4, 2) := by decide +kernel
theorem dX0_make_19 : decode cX0_make 19 = .ok (.iadd, 1) := by decide +kernel
theorem dX0_make_20 : decode cX0_make 20 = .ok (.invokevirtual 9, 3) := by decide +kernel
theorem dX0_make_23 : decode cX0_make 23 = .ok (.i2l, 1) := by decide +kernel
theorem dX0_make_24 : decode cX0_make 24 = .ok (.ladd, 1) := by decide +kernel
theorem dX0_make_25 : decode cX0_make 25 = .ok (.lstore 9, 2) := by decide +kernel
theorem dX0_make_27 : decode cX0_make 27 = .ok (.aload_n 1, 1) := by decide +kernel
theorem dX0_make_28 : decode cX0_make 28 = .ok (.iload_n 3, 1) := by decide +kernel
theorem dX0_make_29 : decode cX0_make 29 = .ok (.iconst 0, 1) := by decide +kernel
theorem dX0_make_30 : decode cX0_make 30 = .ok (.iload 4, 2) := by decide +kernel
theorem dX0_make_32 : decode cX0_make 32 = .ok (.iadd, 1) := by decide +kernel
theorem dX0_make_33 : decode cX0_make 33 = .ok (.invokevirtual 9, 3) := by decide +kernel
theorem dX0_make_36 : decode cX0_make 36 = .ok (.i2l, 1) := by decide +kernel
theorem dX0_make_37 : decode cX0_make 37 = .ok (.lstore 11, 2) := by decide +kernel
theorem dX0_make_39 : decode cX0_make 39 = .ok (.lload 11, 2) := by decide +kernel
theorem dX0_make_41 : decode cX0_make 41 = .ok (.aload_n 1, 1) := by decide +kernel
theorem dX0_make_42 : decode cX0_make 42 = .ok (.iload_n 3, 1) := by decide +kernel
theorem dX0_make_43 : decode cX0_make 43 = .ok (.iconst 2, 1) := by decide +kernel
theorem dX0_make_44 : decode cX0_make 44 = .ok (.iload 4, 2) := by decide +kernel
theorem dX0_make_46 : decode cX0_make 46 = .ok (.iadd, 1) := by decide +kernel
theorem dX0_make_47 : decode cX0_make 47 = .ok (.invokevirtual 9, 3) := by decide +kernel
theorem dX0_make_50 : decode cX0_make 50 = .ok (.i2l, 1) := by decide +kernel
theorem dX0_make_51 : decode cX0_make 51 = .ok (.ladd, 1) := by decide +kernel
theorem dX0_make_52 : decode cX0_make 52 = .ok (.lstore 13, 2) := by decide +kernel
theorem dX0_make_54 : decode cX0_make 54 = .ok (.iload 6, 2) := by decide +kernel
theorem dX0_make_56 : decode cX0_make 56 = .ok (.iload 5, 2) := by decide +kernel
theorem dX0_make_58 : decode cX0_make 58 = .ok (.isub, 1) := by decide +kernel
theorem dX0_make_59 : decode cX0_make 59 = .ok (.i2l, 1) := by decide +kernel
theorem dX0_make_60 : decode cX0_make 60 = .ok (.lstore 15, 2) := by decide +kernel
theorem dX0_make_62 : decode cX0_make 62 = .ok (.lload 7, 2) := by decide +kernel
theorem dX0_make_64 : decode cX0_make 64 = .ok (.lload 15, 2) := by decide +kernel
theorem dX0_make_66 : decode cX0_make 66 = .ok (.lmul, 1) := by decide +kernel
theorem dX0_make_67 : decode cX0_make 67 = .ok (.lload 9, 2) := by decide +kernel
theorem dX0_make_69 : decode cX0_make 69 = .ok (.iload 5, 2) := by decide +kernel
theorem dX0_make_71 : decode cX0_make 71 = .ok (.i2l, 1) := by decide +kernel
theorem dX0_make_72 : decode cX0_make 72 = .ok (.lmul, 1) := by decide +kernel
theorem dX0_make_73 : decode cX0_make 73 = .ok (.ladd, 1) := by decide +kernel
theorem dX0_make_74 : decode cX0_make 74 = .ok (.lstore 17, 2) := by decide +kernel
theorem dX0_make_76 : decode cX0_make 76 = .ok (.lload 9, 2) := by decide +kernel
theorem dX0_make_78 : decode cX0_make 78 = .ok (.lload 15, 2) := by decide +kernel
theorem dX0_make_80 : decode cX0_make 80 = .ok (.lmul, 1) := by decide +kernel
theorem dX0_make_81 : decode cX0_make 81 = .ok (.lload 13, 2) := by decide +kernel
theorem dX0_make_83 : decode cX0_make 83 = .ok (.iload 5, 2) := by decide +kernel
theorem dX0_make_85 : decode cX0_make 85 = .ok (.i2l, 1) := by decide +kernel
theorem dX0_make_86 : decode cX0_make 86 = .ok (.lmul, 1) := by decide +kernel
theorem dX0_make_87 : decode cX0_make 87 = .ok (.ladd, 1) := by decide +kernel
theorem dX0_make_88 : decode cX0_make 88 = .ok (.lstore 19, 2) := by decide +kernel
theorem dX0_make_90 : decode cX0_make 90 = .ok (.lload 13, 2) := by decide +kernel
theorem dX0_make_92 : decode cX0_make 92 = .ok (.lload 15, 2) := by decide +kernel
theorem dX0_make_94 : decode cX0_make 94 = .ok (.lmul, 1) := by decide +kernel
theorem dX0_make_95 : decode cX0_make 95 = .ok (.lload 11, 2) := by decide +kernel
theorem dX0_make_97 : decode cX0_make 97 = .ok (.iload 5, 2) := by decide +kernel
theorem dX0_make_99 : decode cX0_make 99 = .ok (.i2l, 1) := by decide +kernel
theorem dX0_make_100 : decode cX0_make 100 = .ok (.lmul, 1) := by decide +kernel
theorem dX0_make_101 : decode cX0_make 101 = .ok (.ladd, 1) := by decide +kernel
theorem dX0_make_102 : decode cX0_make 102 = .ok (.lstore 21, 2) := by decide +kernel
theorem dX0_make_104 : decode cX0_make 104 = .ok (.aload_n 0, 1) := by decide +kernel
theorem dX0_make_105 : decode cX0_make 105 = .ok (.lload 17, 2) := by decide +kernel
theorem dX0_make_107 : decode cX0_make 107 = .ok (.lload 15, 2) := by decide +kernel
theorem dX0_make_109 : decode cX0_make 109 = .ok (.lmul, 1) := by decide +kernel
theorem dX0_make_110 : decode cX0_make 110 = .ok (.lload 19, 2) := by decide +kernel
theorem dX0_make_112 : decode cX0_make 112 = .ok (.iload 5, 2) := by decide +kernel
theorem dX0_make_114 : decode cX0_make 114 = .ok (.i2l, 1) := by decide +kernel
theorem dX0_make_115 : decode cX0_make 115 = .ok (.lmul, 1) := by decide +kernel
theorem dX0_make_116 : decode cX0_make 116 = .ok (.ladd, 1) := by decide +kernel
theorem dX0_make_117 : decode cX0_make 117 = .ok (.putfield 15, 3) := by decide +kernel
theorem dX0_make_120 : decode cX0_make 120 = .ok (.aload_n 0, 1) := by decide +kernel
theorem dX0_make_121 : decode cX0_make 121 = .ok (.lload 19, 2) := by decide +kernel
theorem dX0_make_123 : decode cX0_make 123 = .ok (.lload 15, 2) := by decide +kernel
theorem dX0_make_125 : decode cX0_make 125 = .ok (.lmul, 1) := by decide +kernel
theorem dX0_make_126 : decode cX0_make 126 = .ok (.lload 21, 2) := by decide +kernel
theorem dX0_make_128 : decode cX0_make 128 = .ok (.iload 5, 2) := by decide +kernel
theorem dX0_make_130 : decode cX0_make 130 = .ok (.i2l, 1) := by decide +kernel
theorem dX0_make_131 : decode cX0_make 131 = .ok (.lmul, 1) := by decide +kernel
theorem dX0_make_132 : decode cX0_make 132 = .ok (.ladd, 1) := by decide +kernel
theorem dX0_make_133 : decode cX0_make 133 = .ok (.putfield 21, 3) := by decide +kernel
theorem dX0_make_136 : decode cX0_make 136 = .ok (.aload_n 0, 1) := by decide +kernel
theorem dX0_make_137 : decode cX0_make 137 = .ok (.aload_n 0, 1) := by decide +kernel
theorem dX0_make_138 : decode cX0_make 138 = .ok (.getfield 15, 3) := by decide +kernel
theorem dX0_make_141 : decode cX0_make 141 = .ok (.lload 15, 2) := by decide +kernel
theorem dX0_make_143 : decode cX0_make 143 = .ok (.lmul, 1) := by decide +kernel
theorem dX0_make_144 : decode cX0_make 144 = .ok (.aload_n 0, 1) := by decide +kernel
theorem dX0_make_145 : decode cX0_make 145 = .ok (.getfield 21, 3) := by decide +kernel
theorem dX0_make_148 : decode cX0_make 148 = .ok (.iload 5, 2) := by decide +kernel
theorem dX0_make_150 : decode cX0_make 150 = .ok (.i2l, 1) := by decide +kernel
theorem dX0_make_151 : decode cX0_make 151 = .ok (.lmul, 1) := by decide +kernel
theorem dX0_make_152 : decode cX0_make 152 = .ok (.ladd, 1) := by decide +kernel
theorem dX0_make_153 : decode cX0_make 153 = .ok (.putfield 24, 3) := by decide +kernel
theorem dX0_make_156 : decode cX0_make 156 = .ok (.return_, 1) := by decide +kernel
theorem dX1_init_0 : decode cX1_init 0 = .ok (.aload_n 0, 1) := by decide +kernel
theorem dX1_init_1 : decode cX1_init 1 = .ok (.invokespecial 3, 3) := by decide +kernel
theorem dX1_init_4 : decode cX1_init 4 = .ok (.aload_n 0, 1) := by decide +kernel
theorem dX1_init_5 : decode cX1_init 5 = .ok (.bipush 11, 2) := by decide +kernel
theorem dX1_init_7 : decode cX1_init 7 = .ok (.anewarray 11, 3) := by decide +kernel
theorem dX1_init_10 : decode cX1_init 10 = .ok (.putfield 13, 3) := by decide +kernel
theorem dX1_init_13 : decode cX1_init 13 = .ok (.aload_n 0, 1) := by decide +kernel
theorem dX1_init_14 : decode cX1_init 14 = .ok (.new 11, 3) := by decide +kernel
theorem dX1_init_17 : decode cX1_init 17 = .ok (.dup, 1) := by decide +kernel
theorem dX1_init_18 : decode cX1_init 18 = .ok (.invokespecial 17, 3) := by decide +kernel
theorem dX1_init_21 : decode cX1_init 21 = .ok (.putfield 18, 3) := by decide +kernel
theorem dX1_init_24 : decode cX1_init 24 = .ok (.iconst 0, 1) := by decide +kernel
theorem dX1_init_25 : decode cX1_init 25 = .ok (.istore_n 1, 1) := by decide +kernel
theorem dX1_init_26 : decode cX1_init 26 = .ok (.iload_n 1, 1) := by decide +kernel
theorem dX1_init_27 : decode cX1_init 27 = .ok (.bipush 11, 2) := by decide +kernel
theorem dX1_init_29 : decode cX1_init 29 = .ok (.if_icmp .ge 22, 3) := by decide +kernel
theorem dX1_init_32 : decode cX1_init 32 = .ok (.aload_n 0, 1) := by decide +kernel
theorem dX1_init_33 : decode cX1_init 33 = .ok (.getfield 13, 3) := by decide +kernel
theorem dX1_init_36 : decode cX1_init 36 = .ok (.iload_n 1, 1) := by decide +kernel
theorem dX1_init_37 : decode cX1_init 37 = .ok (.new 11, 3) := by decide +kernel
theorem dX1_init_40 : decode cX1_init 40 = .ok (.dup, 1) := by decide +kernel
theorem dX1_init_41 : decode cX1_init 41 = .ok (.invokespecial 17, 3) := by decide +kernel
theorem dX1_init_44 : decode cX1_init 44 = .ok (.aastore, 1) := by decide +kernel
theorem dX1_init_45 : decode cX1_init 45 = .ok (.iinc 1 1, 3) := by decide +kernel
theorem dX1_init_48 : decode cX1_init 48 = .ok (.goto (-22), 3) := by decide +kernel
theorem dX1_init_51 : decode cX1_init 51 = .ok (.return_, 1) := by decide +kernel
theorem dX1_now_0 : decode cX1_now 0 = .ok (.aload_n 0, 1) := by decide +kernel
theorem dX1_now_1 : decode cX1_now 1 = .ok (.getfield 13, 3) := by decide +kernel
theorem dX1_now_4 : decode cX1_now 4 = .ok (.aload_n 0, 1) := by decide +kernel
theorem dX1_now_5 : decode cX1_now 5 = .ok (.getfield 22, 3) := by decide +kernel
theorem dX1_now_8 : decode cX1_now 8 = .ok (.aaload, 1) := by decide +kernel
theorem dX1_now_9 : decode cX1_now 9 = .ok (.areturn, 1) := by decide +kernel
theorem dX1_draftOfNow_0 : decode cX1_draftOfNow 0 = .ok (.aload_n 0, 1) := by decide +kernel
theorem dX1_draftOfNow_1 : decode cX1_draftOfNow 1 = .ok (.getfield 18, 3) := by decide +kernel
theorem dX1_draftOfNow_4 : decode cX1_draftOfNow 4 = .ok (.aload_n 0, 1) := by decide +kernel
theorem dX1_draftOfNow_5 : decode cX1_draftOfNow 5 = .ok (.invokevirtual 26, 3) := by decide +kernel
theorem dX1_draftOfNow_8 : decode cX1_draftOfNow 8 = .ok (.invokevirtual 30, 3) := by decide +kernel
theorem dX1_draftOfNow_11 : decode cX1_draftOfNow 11 = .ok (.aload_n 0, 1) := by decide +kernel
theorem dX1_draftOfNow_12 : decode cX1_draftOfNow 12 = .ok (.getfield 18, 3) := by decide +kernel
theorem dX1_draftOfNow_15 : decode cX1_draftOfNow 15 = .ok (.areturn, 1) := by decide +kernel
theorem dX1_takeDraft_0 : decode cX1_takeDraft 0 = .ok (.aload_n 0, 1) := by decide +kernel
theorem dX1_takeDraft_1 : decode cX1_takeDraft 1 = .ok (.aload_n 0, 1) := by decide +kernel
theorem dX1_takeDraft_2 : decode cX1_takeDraft 2 = .ok (.getfield 22, 3) := by decide +kernel
theorem dX1_takeDraft_5 : decode cX1_takeDraft 5 = .ok (.iconst 1, 1) := by decide +kernel
theorem dX1_takeDraft_6 : decode cX1_takeDraft 6 = .ok (.iadd, 1) := by decide +kernel
theorem dX1_takeDraft_7 : decode cX1_takeDraft 7 = .ok (.bipush 11, 2) := by decide +kernel
theorem dX1_takeDraft_9 : decode cX1_takeDraft 9 = .ok (.irem, 1) := by decide +kernel
theorem dX1_takeDraft_10 : decode cX1_takeDraft 10 = .ok (.putfield 22, 3) := by decide +kernel
theorem dX1_takeDraft_13 : decode cX1_takeDraft 13 = .ok (.aload_n 0, 1) := by decide +kernel
theorem dX1_takeDraft_14 : decode cX1_takeDraft 14 = .ok (.getfield 13, 3) := by decide +kernel
theorem dX1_takeDraft_17 : decode cX1_takeDraft 17 = .ok (.aload_n 0, 1) := by decide +kernel
theorem dX1_takeDraft_18 : decode cX1_takeDraft 18 = .ok (.getfield 22, 3) := by decide +kernel
theorem dX1_takeDraft_21 : decode cX1_takeDraft 21 = .ok (.aaload, 1) := by decide +kernel
theorem dX1_takeDraft_22 : decode cX1_takeDraft 22 = .ok (.astore_n 1, 1) := by decide +kernel
theorem dX1_takeDraft_23 : decode cX1_takeDraft 23 = .ok (.aload_n 0, 1) := by decide +kernel
theorem dX1_takeDraft_24 : decode cX1_takeDraft 24 = .ok (.getfield 13, 3) := by decide +kernel
theorem dX1_takeDraft_27 : decode cX1_takeDraft 27 = .ok (.aload_n 0, 1) := by decide +kernel
theorem dX1_takeDraft_28 : decode cX1_takeDraft 28 = .ok (.getfield 22, 3) := by decide +kernel
theorem dX1_takeDraft_31 : decode cX1_takeDraft 31 = .ok (.aload_n 0, 1) := by decide +kernel
theorem dX1_takeDraft_32 : decode cX1_takeDraft 32 = .ok (.getfield 18, 3) := by decide +kernel
theorem dX1_takeDraft_35 : decode cX1_takeDraft 35 = .ok (.aastore, 1) := by decide +kernel
theorem dX1_takeDraft_36 : decode cX1_takeDraft 36 = .ok (.aload_n 0, 1) := by decide +kernel
theorem dX1_takeDraft_37 : decode cX1_takeDraft 37 = .ok (.aload_n 1, 1) := by decide +kernel
theorem dX1_takeDraft_38 : decode cX1_takeDraft 38 = .ok (.putfield 18, 3) := by decide +kernel
theorem dX1_takeDraft_41 : decode cX1_takeDraft 41 = .ok (.aload_n 0, 1) := by decide +kernel
theorem dX1_takeDraft_42 : decode cX1_takeDraft 42 = .ok (.aload_n 0, 1) := by decide +kernel
theorem dX1_takeDraft_43 : decode cX1_takeDraft 43 = .ok (.getfield 34, 3) := by decide +kernel
theorem dX1_takeDraft_46 : decode cX1_takeDraft 46 = .ok (.iconst 1, 1) := by decide +kernel
theorem dX1_takeDraft_47 : decode cX1_takeDraft 47 = .ok (.iadd, 1) := by decide +kernel
theorem dX1_takeDraft_48 : decode cX1_takeDraft 48 = .ok (.bipush 10, 2) := by decide +kernel
theorem dX1_takeDraft_50 : decode cX1_takeDraft 50 = .ok (.invokestatic 37, 3) := by decide +kernel
theorem dX1_takeDraft_53 : decode cX1_takeDraft 53 = .ok (.putfield 34, 3) := by decide +kernel
theorem dX1_takeDraft_56 : decode cX1_takeDraft 56 = .ok (.aload_n 0, 1) := by decide +kernel
theorem dX1_takeDraft_57 : decode cX1_takeDraft 57 = .ok (.iconst 0, 1) := by decide +kernel
theorem dX1_takeDraft_58 : decode cX1_takeDraft 58 = .ok (.putfield 43, 3) := by decide +kernel
theorem dX1_takeDraft_61 : decode cX1_takeDraft 61 = .ok (.return_, 1) := by decide +kernel
theorem dX1_stepBack_0 : decode cX1_stepBack 0 = .ok (.aload_n 0, 1) := by decide +kernel
theorem dX1_stepBack_1 : decode cX1_stepBack 1 = .ok (.aload_n 0, 1) := by decide +kernel
theorem dX1_stepBack_2 : decode cX1_stepBack 2 = .ok (.getfield 22, 3) := by decide +kernel
theorem dX1_stepBack_5 : decode cX1_stepBack 5 = .ok (.bipush 11, 2) := by decide +kernel
theorem dX1_stepBack_7 : decode cX1_stepBack 7 = .ok (.iadd, 1) := by decide +kernel
theorem dX1_stepBack_8 : decode cX1_stepBack 8 = .ok (.iconst 1, 1) := by decide +kernel
theorem dX1_stepBack_9 : decode cX1_stepBack 9 = .ok (.isub, 1) := by decide +kernel
theorem dX1_stepBack_10 : decode cX1_stepBack 10 = .ok (.bipush 11, 2) := by decide +kernel
theorem dX1_stepBack_12 : decode cX1_stepBack 12 = .ok (.irem, 1) := by decide +kernel
theorem dX1_stepBack_13 : decode cX1_stepBack 13 = .ok (.putfield 22, 3) := by decide +kernel
theorem dX1_stepBack_16 : decode cX1_stepBack 16 = .ok (.aload_n 0, 1) := by decide +kernel
theorem dX1_stepBack_17 : decode cX1_stepBack 17 = .ok (.dup, 1) := by decide +kernel
theorem dX1_stepBack_18 : decode cX1_stepBack 18 = .ok (.getfield 34, 3) := by decide +kernel
theorem dX1_stepBack_21 : decode cX1_stepBack 21 = .ok (.iconst 1, 1) := by decide +kernel
theorem dX1_stepBack_22 : decode cX1_stepBack 22 = .ok (.isub, 1) := by decide +kernel
theorem dX1_stepBack_23 : decode cX1_stepBack 23 = .ok (.putfield 34, 3) := by decide +kernel
theorem dX1_stepBack_26 : decode cX1_stepBack 26 = .ok (.aload_n 0, 1) := by decide +kernel
theorem dX1_stepBack_27 : decode cX1_stepBack 27 = .ok (.dup, 1) := by decide +kernel
theorem dX1_stepBack_28 : decode cX1_stepBack 28 = .ok (.getfield 43, 3) := by decide +kernel
theorem dX1_stepBack_31 : decode cX1_stepBack 31 = .ok (.iconst 1, 1) := by decide +kernel
theorem dX1_stepBack_32 : decode cX1_stepBack 32 = .ok (.iadd, 1) := by decide +kernel
theorem dX1_stepBack_33 : decode cX1_stepBack 33 = .ok (.putfield 43, 3) := by decide +kernel
theorem dX1_stepBack_36 : decode cX1_stepBack 36 = .ok (.return_, 1) := by decide +kernel
theorem dX1_stepForward_0 : decode cX1_stepForward 0 = .ok (.aload_n 0, 1) := by decide +kernel
theorem dX1_stepForward_1 : decode cX1_stepForward 1 = .ok (.aload_n 0, 1) := by decide +kernel
theorem dX1_stepForward_2 : decode cX1_stepForward 2 = .ok (.getfield 22, 3) := by decide +kernel
theorem dX1_stepForward_5 : decode cX1_stepForward 5 = .ok (.iconst 1, 1) := by decide +kernel
theorem dX1_stepForward_6 : decode cX1_stepForward 6 = .ok (.iadd, 1) := by decide +kernel
theorem dX1_stepForward_7 : decode cX1_stepForward 7 = .ok (.bipush 11, 2) := by decide +kernel
theorem dX1_stepForward_9 : decode cX1_stepForward 9 = .ok (.irem, 1) := by decide +kernel
theorem dX1_stepForward_10 : decode cX1_stepForward 10 = .ok (.putfield 22, 3) := by decide +kernel
theorem dX1_stepForward_13 : decode cX1_stepForward 13 = .ok (.aload_n 0, 1) := by decide +kernel
theorem dX1_stepForward_14 : decode cX1_stepForward 14 = .ok (.dup, 1) := by decide +kernel
theorem dX1_stepForward_15 : decode cX1_stepForward 15 = .ok (.getfield 34, 3) := by decide +kernel
theorem dX1_stepForward_18 : decode cX1_stepForward 18 = .ok (.iconst 1, 1) := by decide +kernel
theorem dX1_stepForward_19 : decode cX1_stepForward 19 = .ok (.iadd, 1) := by decide +kernel
theorem dX1_stepForward_20 : decode cX1_stepForward 20 = .ok (.putfield 34, 3) := by decide +kernel
theorem dX1_stepForward_23 : decode cX1_stepForward 23 = .ok (.aload_n 0, 1) := by decide +kernel
theorem dX1_stepForward_24 : decode cX1_stepForward 24 = .ok (.dup, 1) := by decide +kernel
theorem dX1_stepForward_25 : decode cX1_stepForward 25 = .ok (.getfield 43, 3) := by decide +kernel
theorem dX1_stepForward_28 : decode cX1_stepForward 28 = .ok (.iconst 1, 1) := by decide +kernel
theorem dX1_stepForward_29 : decode cX1_stepForward 29 = .ok (.isub, 1) := by decide +kernel
theorem dX1_stepForward_30 : decode cX1_stepForward 30 = .ok (.putfield 43, 3) := by decide +kernel
theorem dX1_stepForward_33 : decode cX1_stepForward 33 = .ok (.return_, 1) := by decide +kernel
theorem dX1_startAnew_0 : decode cX1_startAnew 0 = .ok (.aload_n 0, 1) := by decide +kernel
theorem dX1_startAnew_1 : decode cX1_startAnew 1 = .ok (.invokevirtual 26, 3) := by decide +kernel
theorem dX1_startAnew_4 : decode cX1_startAnew 4 = .ok (.aload_n 1, 1) := by decide +kernel
theorem dX1_startAnew_5 : decode cX1_startAnew 5 = .ok (.invokevirtual 30, 3) := by decide +kernel
theorem dX1_startAnew_8 : decode cX1_startAnew 8 = .ok (.aload_n 0, 1) := by decide +kernel
theorem dX1_startAnew_9 : decode cX1_startAnew 9 = .ok (.iconst 0, 1) := by decide +kernel
theorem dX1_startAnew_10 : decode cX1_startAnew 10 = .ok (.putfield 34, 3) := by decide +kernel
theorem dX1_startAnew_13 : decode cX1_startAnew 13 = .ok (.aload_n 0, 1) := by decide +kernel
theorem dX1_startAnew_14 : decode cX1_startAnew 14 = .ok (.iconst 0, 1) := by decide +kernel
theorem dX1_startAnew_15 : decode cX1_startAnew 15 = .ok (.putfield 43, 3) := by decide +kernel
theorem dX1_startAnew_18 : decode cX1_startAnew 18 = .ok (.return_, 1) := by decide +kernel
theorem dX2_init_0 : decode cX2_init 0 = .ok (.aload_n 0, 1) := by decide +kernel
theorem dX2_init_1 : decode cX2_init 1 = .ok (.invokespecial 3, 3) := by decide +kernel
theorem dX2_init_4 : decode cX2_init 4 = .ok (.return_, 1) := by decide +kernel
theorem dX2_start_0 : decode cX2_start 0 = .ok (.aload_n 0, 1) := by decide +kernel
theorem dX2_start_1 : decode cX2_start 1 = .ok (.iconst 0, 1) := by decide +kernel
theorem dX2_start_2 : decode cX2_start 2 = .ok (.putfield 9, 3) := by decide +kernel
theorem dX2_start_5 : decode cX2_start 5 = .ok (.aload_n 0, 1) := by decide +kernel
theorem dX2_start_6 : decode cX2_start 6 = .ok (.iconst 0, 1) := by decide +kernel
theorem dX2_start_7 : decode cX2_start 7 = .ok (.putfield 15, 3) := by decide +kernel
theorem dX2_start_10 : decode cX2_start 10 = .ok (.return_, 1) := by decide +kernel
theorem dX2_quotient_0 : decode cX2_quotient 0 = .ok (.lload_n 3, 1) := by decide +kernel
theorem dX2_quotient_1 : decode cX2_quotient 1 = .ok (.lconst 0, 1) := by decide +kernel
theorem dX2_quotient_2 : decode cX2_quotient 2 = .ok (.lcmp, 1) := by decide +kernel
theorem dX2_quotient_3 : decode cX2_quotient 3 = .ok (.ifCond .eq 11, 3) := by decide +kernel
theorem dX2_quotient_6 : decode cX2_quotient 6 = .ok (.lload_n 1, 1) := by decide +kernel
theorem dX2_quotient_7 : decode cX2_quotient 7 = .ok (.lload_n 3, 1) := by decide +kernel
theorem dX2_quotient_8 : decode cX2_quotient 8 = .ok (.lrem, 1) := by decide +kernel
theorem dX2_quotient_9 : decode cX2_quotient 9 = .ok (.lconst 0, 1) := by decide +kernel
theorem dX2_quotient_10 : decode cX2_quotient 10 = .ok (.lcmp, 1) := by decide +kernel
theorem dX2_quotient_11 : decode cX2_quotient 11 = .ok (.ifCond .eq 10, 3) := by decide +kernel
theorem dX2_quotient_14 : decode cX2_quotient 14 = .ok (.aload_n 0, 1) := by decide +kernel
theorem dX2_quotient_15 : decode cX2_quotient 15 = .ok (.iconst 1, 1) := by decide +kernel
theorem dX2_quotient_16 : decode cX2_quotient 16 = .ok (.putfield 9, 3) := by decide +kernel
theorem dX2_quotient_19 : decode cX2_quotient 19 = .ok (.iconst 0, 1) := by decide +kernel
theorem dX2_quotient_20 : decode cX2_quotient 20 = .ok (.ireturn, 1) := by decide +kernel
theorem dX2_quotient_21 : decode cX2_quotient 21 = .ok (.lload_n 1, 1) := by decide +kernel
theorem dX2_quotient_22 : decode cX2_quotient 22 = .ok (.lload_n 3, 1) := by decide +kernel
theorem dX2_quotient_23 : decode cX2_quotient 23 = .ok (.ldiv, 1) := by decide +kernel
theorem dX2_quotient_24 : decode cX2_quotient 24 = .ok (.lstore 5, 2) := by decide +kernel
theorem dX2_quotient_26 : decode cX2_quotient 26 = .ok (.lload 5, 2) := by decide +kernel
theorem dX2_quotient_28 : decode cX2_quotient 28 = .ok (.invokestatic 18, 3) := by decide +kernel
theorem dX2_quotient_31 : decode cX2_quotient 31 = .ok (.ldc2_w 24, 3) := by decide +kernel
theorem dX2_quotient_34 : decode cX2_quotient 34 = .ok (.lcmp, 1) := by decide +kernel
theorem dX2_quotient_35 : decode cX2_quotient 35 = .ok (.ifCond .le 10, 3) := by decide +kernel
theorem dX2_quotient_38 : decode cX2_quotient 38 = .ok (.aload_n 0, 1) := by decide +kernel
theorem dX2_quotient_39 : decode cX2_quotient 39 = .ok (.iconst 1, 1) := by decide +kernel
theorem dX2_quotient_40 : decode cX2_quotient 40 = .ok (.putfield 15, 3) := by decide +kernel
theorem dX2_quotient_43 : decode cX2_quotient 43 = .ok (.iconst 0, 1) := by decide +kernel
theorem dX2_quotient_44 : decode cX2_quotient 44 = .ok (.ireturn, 1) := by decide +kernel
theorem dX2_quotient_45 : decode cX2_quotient 45 = .ok (.lload 5, 2) := by decide +kernel
theorem dX2_quotient_47 : decode cX2_quotient 47 = .ok (.l2i, 1) := by decide +kernel
theorem dX2_quotient_48 : decode cX2_quotient 48 = .ok (.ireturn, 1) := by decide +kernel
theorem dX2_error_0 : decode cX2_error 0 = .ok (.aload_n 0, 1) := by decide +kernel
theorem dX2_error_1 : decode cX2_error 1 = .ok (.getfield 9, 3) := by decide +kernel
theorem dX2_error_4 : decode cX2_error 4 = .ok (.ifCond .eq 6, 3) := by decide +kernel
theorem dX2_error_7 : decode cX2_error 7 = .ok (.ldc 26, 2) := by decide +kernel
theorem dX2_error_9 : decode cX2_error 9 = .ok (.ireturn, 1) := by decide +kernel
theorem dX2_error_10 : decode cX2_error 10 = .ok (.aload_n 0, 1) := by decide +kernel
theorem dX2_error_11 : decode cX2_error 11 = .ok (.getfield 15, 3) := by decide +kernel
theorem dX2_error_14 : decode cX2_error 14 = .ok (.ifCond .eq 8, 3) := by decide +kernel
theorem dX2_error_17 : decode cX2_error 17 = .ok (.ldc 27, 2) := by decide +kernel
theorem dX2_error_19 : decode cX2_error 19 = .ok (.goto 4, 3) := by decide +kernel
theorem dX2_error_22 : decode cX2_error 22 = .ok (.iconst 0, 1) := by decide +kernel
theorem dX2_error_23 : decode cX2_error 23 = .ok (.ireturn, 1) := by decide +kernel
theorem dX3_init_0 : decode cX3_init 0 = .ok (.aload_n 0, 1) := by decide +kernel
theorem dX3_init_1 : decode cX3_init 1 = .ok (.invokespecial 3, 3) := by decide +kernel
theorem dX3_init_4 : decode cX3_init 4 = .ok (.aload_n 0, 1) := by decide +kernel
theorem dX3_init_5 : decode cX3_init 5 = .ok (.bipush 96, 2) := by decide +kernel
theorem dX3_init_7 : decode cX3_init 7 = .ok (.newarray .int, 2) := by decide +kernel
theorem dX3_init_9 : decode cX3_init 9 = .ok (.putfield 9, 3) := by decide +kernel
theorem dX3_init_12 : decode cX3_init 12 = .ok (.return_, 1) := by decide +kernel
theorem dX3_copyFrom_0 : decode cX3_copyFrom 0 = .ok (.aload_n 1, 1) := by decide +kernel
theorem dX3_copyFrom_1 : decode cX3_copyFrom 1 = .ok (.getfield 9, 3) := by decide +kernel
theorem dX3_copyFrom_4 : decode cX3_copyFrom 4 = .ok (.iconst 0, 1) := by decide +kernel
theorem dX3_copyFrom_5 : decode cX3_copyFrom 5 = .ok (.aload_n 0, 1) := by decide +kernel
theorem dX3_copyFrom_6 : decode cX3_copyFrom 6 = .ok (.getfield 9, 3) := by decide +kernel
theorem dX3_copyFrom_9 : decode cX3_copyFrom 9 = .ok (.iconst 0, 1) := by decide +kernel
theorem dX3_copyFrom_10 : decode cX3_copyFrom 10 = .ok (.bipush 96, 2) := by decide +kernel
theorem dX3_copyFrom_12 : decode cX3_copyFrom 12 = .ok (.invokestatic 15, 3) := by decide +kernel
theorem dX3_copyFrom_15 : decode cX3_copyFrom 15 = .ok (.aload_n 0, 1) := by decide +kernel
theorem dX3_copyFrom_16 : decode cX3_copyFrom 16 = .ok (.aload_n 1, 1) := by decide +kernel
theorem dX3_copyFrom_17 : decode cX3_copyFrom 17 = .ok (.getfield 21, 3) := by decide +kernel
theorem dX3_copyFrom_20 : decode cX3_copyFrom 20 = .ok (.putfield 21, 3) := by decide +kernel
theorem dX3_copyFrom_23 : decode cX3_copyFrom 23 = .ok (.aload_n 0, 1) := by decide +kernel
theorem dX3_copyFrom_24 : decode cX3_copyFrom 24 = .ok (.aload_n 1, 1) := by decide +kernel
theorem dX3_copyFrom_25 : decode cX3_copyFrom 25 = .ok (.getfield 25, 3) := by decide +kernel
theorem dX3_copyFrom_28 : decode cX3_copyFrom 28 = .ok (.putfield 25, 3) := by decide +kernel
theorem dX3_copyFrom_31 : decode cX3_copyFrom 31 = .ok (.return_, 1) := by decide +kernel
theorem dX3_makeEmpty_0 : decode cX3_makeEmpty 0 = .ok (.aload_n 0, 1) := by decide +kernel
theorem dX3_makeEmpty_1 : decode cX3_makeEmpty 1 = .ok (.iconst 0, 1) := by decide +kernel
theorem dX3_makeEmpty_2 : decode cX3_makeEmpty 2 = .ok (.putfield 21, 3) := by decide +kernel
theorem dX3_makeEmpty_5 : decode cX3_makeEmpty 5 = .ok (.aload_n 0, 1) := by decide +kernel
theorem dX3_makeEmpty_6 : decode cX3_makeEmpty 6 = .ok (.iconst 0, 1) := by decide +kernel
theorem dX3_makeEmpty_7 : decode cX3_makeEmpty 7 = .ok (.putfield 25, 3) := by decide +kernel
theorem dX3_makeEmpty_10 : decode cX3_makeEmpty 10 = .ok (.return_, 1) := by decide +kernel
theorem dX3_hasNode_0 : decode cX3_hasNode 0 = .ok (.iconst 0, 1) := by decide +kernel
theorem dX3_hasNode_1 : decode cX3_hasNode 1 = .ok (.iload_n 1, 1) := by decide +kernel
theorem dX3_hasNode_2 : decode cX3_hasNode 2 = .ok (.if_icmp .gt 15, 3) := by decide +kernel
theorem dX3_hasNode_5 : decode cX3_hasNode 5 = .ok (.iload_n 1, 1) := by decide +kernel
theorem dX3_hasNode_6 : decode cX3_hasNode 6 = .ok (.aload_n 0, 1) := by decide +kernel
theorem dX3_hasNode_7 : decode cX3_hasNode 7 = .ok (.getfield 21, 3) := by decide +kernel
theorem dX3_hasNode_10 : decode cX3_hasNode 10 = .ok (.if_icmp .ge 7, 3) := by decide +kernel
theorem dX3_hasNode_13 : decode cX3_hasNode 13 = .ok (.iconst 1, 1) := by decide +kernel
theorem dX3_hasNode_14 : decode cX3_hasNode 14 = .ok (.goto 4, 3) := by decide +kernel
theorem dX3_hasNode_17 : decode cX3_hasNode 17 = .ok (.iconst 0, 1) := by decide +kernel
theorem dX3_hasNode_18 : decode cX3_hasNode 18 = .ok (.ireturn, 1) := by decide +kernel
theorem dX3_hasSegment_0 : decode cX3_hasSegment 0 = .ok (.iconst 0, 1) := by decide +kernel
theorem dX3_hasSegment_1 : decode cX3_hasSegment 1 = .ok (.iload_n 1, 1) := by decide +kernel
theorem dX3_hasSegment_2 : decode cX3_hasSegment 2 = .ok (.if_icmp .gt 15, 3) := by decide +kernel
theorem dX3_hasSegment_5 : decode cX3_hasSegment 5 = .ok (.iload_n 1, 1) := by decide +kernel
theorem dX3_hasSegment_6 : decode cX3_hasSegment 6 = .ok (.aload_n 0, 1) := by decide +kernel
theorem dX3_hasSegment_7 : decode cX3_hasSegment 7 = .ok (.invokevirtual 29, 3) := by decide +kernel
theorem dX3_hasSegment_10 : decode cX3_hasSegment 10 = .ok (.if_icmp .ge 7, 3) := by decide +kernel
theorem dX3_hasSegment_13 : decode cX3_hasSegment 13 = .ok (.iconst 1, 1) := by decide +kernel
theorem dX3_hasSegment_14 : decode cX3_hasSegment 14 = .ok (.goto 4, 3) := by decide +kernel
theorem dX3_hasSegment_17 : decode cX3_hasSegment 17 = .ok (.iconst 0, 1) := by decide +kernel
theorem dX3_hasSegment_18 : decode cX3_hasSegment 18 = .ok (.ireturn, 1) := by decide +kernel
theorem dX3_segmentCount_0 : decode cX3_segmentCount 0 = .ok (.aload_n 0, 1) := by decide +kernel
theorem dX3_segmentCount_1 : decode cX3_segmentCount 1 = .ok (.getfield 25, 3) := by decide +kernel
theorem dX3_segmentCount_4 : decode cX3_segmentCount 4 = .ok (.ifCond .eq 10, 3) := by decide +kernel
theorem dX3_segmentCount_7 : decode cX3_segmentCount 7 = .ok (.aload_n 0, 1) := by decide +kernel
theorem dX3_segmentCount_8 : decode cX3_segmentCount 8 = .ok (.getfield 21, 3) := by decide +kernel
theorem dX3_segmentCount_11 : decode cX3_segmentCount 11 = .ok (.goto 9, 3) := by decide +kernel
theorem dX3_segmentCount_14 : decode cX3_segmentCount 14 = .ok (.aload_n 0, 1) := by decide +kernel
theorem dX3_segmentCount_15 : decode cX3_segmentCount 15 = .ok (.getfield 21, 3) := by decide +kernel
theorem dX3_segmentCount_18 : decode cX3_segmentCount 18 = .ok (.iconst 1, 1) := by decide +kernel
theorem dX3_segmentCount_19 : decode cX3_segmentCount 19 = .ok (.isub, 1) := by decide +kernel
theorem dX3_segmentCount_20 : decode cX3_segmentCount 20 = .ok (.ireturn, 1) := by decide +kernel
theorem dX3_hasSegmentsAround_0 : decode cX3_hasSegmentsAround 0 = .ok (.aload_n 0, 1) := by decide +kernel
theorem dX3_hasSegmentsAround_1 : decode cX3_hasSegmentsAround 1 = .ok (.getfield 25, 3) := by decide +kernel
theorem dX3_hasSegmentsAround_4 : decode cX3_hasSegmentsAround 4 = .ok (.ifCond .ne 17, 3) := by decide +kernel
theorem dX3_hasSegmentsAround_7 : decode cX3_hasSegmentsAround 7 = .ok (.iload_n 1, 1) := by decide +kernel
theorem dX3_hasSegmentsAround_8 : decode cX3_hasSegmentsAround 8 = .ok (.ifCond .le 17, 3) := by decide +kernel
theorem dX3_hasSegmentsAround_11 : decode cX3_hasSegmentsAround 11 = .ok (.iload_n 1, 1) := by decide +kernel
theorem dX3_hasSegmentsAround_12 : decode cX3_hasSegmentsAround 12 = .ok (.aload_n 0, 1) := by decide +kernel
theorem dX3_hasSegmentsAround_13 : decode cX3_hasSegmentsAround 13 = .ok (.getfield 21, 3) := by decide +kernel
theorem dX3_hasSegmentsAround_16 : decode cX3_hasSegmentsAround 16 = .ok (.iconst 1, 1) := by decide +kernel
theorem dX3_hasSegmentsAround_17 : decode cX3_hasSegmentsAround 17 = .ok (.isub, 1) := by decide +kernel
theorem dX3_hasSegmentsAround_18 : decode cX3_hasSegmentsAround 18 = .ok (.if_icmp .ge 7, 3) := by decide +kernel
theorem dX3_hasSegmentsAround_21 : decode cX3_hasSegmentsAround 21 = .ok (.iconst 1, 1) := by decide +kernel
theorem dX3_hasSegmentsAround_22 : decode cX3_hasSegmentsAround 22 = .ok (.goto 4, 3) := by decide +kernel
theorem dX3_hasSegmentsAround_25 : decode cX3_hasSegmentsAround 25 = .ok (.iconst 0, 1) := by decide +kernel
theorem dX3_hasSegmentsAround_26 : decode cX3_hasSegmentsAround 26 = .ok (.ireturn, 1) := by decide +kernel
theorem dX3_endOf_0 : decode cX3_endOf 0 = .ok (.iload_n 1, 1) := by decide +kernel
theorem dX3_endOf_1 : decode cX3_endOf 1 = .ok (.iconst 1, 1) := by decide +kernel
theorem dX3_endOf_2 : decode cX3_endOf 2 = .ok (.iadd, 1) := by decide +kernel
theorem dX3_endOf_3 : decode cX3_endOf 3 = .ok (.aload_n 0, 1) := by decide +kernel
theorem dX3_endOf_4 : decode cX3_endOf 4 = .ok (.getfield 21, 3) := by decide +kernel
theorem dX3_endOf_7 : decode cX3_endOf 7 = .ok (.if_icmp .ge 9, 3) := by decide +kernel
theorem dX3_endOf_10 : decode cX3_endOf 10 = .ok (.iload_n 1, 1) := by decide +kernel
theorem dX3_endOf_11 : decode cX3_endOf 11 = .ok (.iconst 1, 1) := by decide +kernel
theorem dX3_endOf_12 : decode cX3_endOf 12 = .ok (.iadd, 1) := by decide +kernel
theorem dX3_endOf_13 : decode cX3_endOf 13 = .ok (.goto 4, 3) := by decide +kernel
theorem dX3_endOf_16 : decode cX3_endOf 16 = .ok (.iconst 0, 1) := by decide +kernel
theorem dX3_endOf_17 : decode cX3_endOf 17 = .ok (.ireturn, 1) := by decide +kernel
theorem dX3_get_0 : decode cX3_get 0 = .ok (.iload_n 1, 1) := by decide +kernel
theorem dX3_get_1 : decode cX3_get 1 = .ok (.ifCond .lt 19, 3) := by decide +kernel
theorem dX3_get_4 : decode cX3_get 4 = .ok (.iload_n 1, 1) := by decide +kernel
theorem dX3_get_5 : decode cX3_get 5 = .ok (.bipush 12, 2) := by decide +kernel
theorem dX3_get_7 : decode cX3_get 7 = .ok (.if_icmp .ge 13, 3) := by decide +kernel
theorem dX3_get_10 : decode cX3_get 10 = .ok (.iload_n 2, 1) := by decide +kernel
theorem dX3_get_11 : decode cX3_get 11 = .ok (.ifCond .lt 9, 3) := by decide +kernel
theorem dX3_get_14 : decode cX3_get 14 = .ok (.iload_n 2, 1) := by decide +kernel
theorem dX3_get_15 : decode cX3_get 15 = .ok (.bipush 8, 2) := by decide +kernel
theorem dX3_get_17 : decode cX3_get 17 = .ok (.if_icmp .lt 5, 3) := by decide +kernel
theorem dX3_get_20 : decode cX3_get 20 = .ok (.iconst 0, 1) := by decide +kernel
theorem dX3_get_21 : decode cX3_get 21 = .ok (.ireturn, 1) := by decide +kernel
theorem dX3_get_22 : decode cX3_get 22 = .ok (.aload_n 0, 1) := by decide +kernel
theorem dX3_get_23 : decode cX3_get 23 = .ok (.getfield 9, 3) := by decide +kernel
theorem dX3_get_26 : decode cX3_get 26 = .ok (.iload_n 1, 1) := by decide +kernel
theorem dX3_get_27 : decode cX3_get 27 = .ok (.bipush 8, 2) := by decide +kernel
theorem dX3_get_29 : decode cX3_get 29 = .ok (.imul, 1) := by decide +kernel
theorem dX3_get_30 : decode cX3_get 30 = .ok (.iload_n 2, 1) := by decide +kernel
theorem dX3_get_31 : decode cX3_get 31 = .ok (.iadd, 1) := by decide +kernel
theorem dX3_get_32 : decode cX3_get 32 = .ok (.iaload, 1) := by decide +kernel
theorem dX3_get_33 : decode cX3_get 33 = .ok (.ireturn, 1) := by decide +kernel
theorem dX3_put_0 : decode cX3_put 0 = .ok (.iload_n 1, 1) := by decide +kernel
theorem dX3_put_1 : decode cX3_put 1 = .ok (.ifCond .lt 31, 3) := by decide +kernel
theorem dX3_put_4 : decode cX3_put 4 = .ok (.iload_n 1, 1) := by decide +kernel
theorem dX3_put_5 : decode cX3_put 5 = .ok (.bipush 12, 2) := by decide +kernel
theorem dX3_put_7 : decode cX3_put 7 = .ok (.if_icmp .ge 25, 3) := by decide +kernel
theorem dX3_put_10 : decode cX3_put 10 = .ok (.iload_n 2, 1) := by decide +kernel
theorem dX3_put_11 : decode cX3_put 11 = .ok (.ifCond .lt 21, 3) := by decide +kernel
theorem dX3_put_14 : decode cX3_put 14 = .ok (.iload_n 2, 1) := by decide +kernel
theorem dX3_put_15 : decode cX3_put 15 = .ok (.bipush 8, 2) := by decide +kernel
theorem dX3_put_17 : decode cX3_put 17 = .ok (.if_icmp .ge 15, 3) := by decide +kernel
theorem dX3_put_20 : decode cX3_put 20 = .ok (.aload_n 0, 1) := by decide +kernel
theorem dX3_put_21 : decode cX3_put 21 = .ok (.getfield 9, 3) := by decide +kernel
theorem dX3_put_24 : decode cX3_put 24 = .ok (.iload_n 1, 1) := by decide +kernel
theorem dX3_put_25 : decode cX3_put 25 = .ok (.bipush 8, 2) := by decide +kernel
theorem dX3_put_27 : decode cX3_put 27 = .ok (.imul, 1) := by decide +kernel
theorem dX3_put_28 : decode cX3_put 28 = .ok (.iload_n 2, 1) := by decide +kernel
theorem dX3_put_29 : decode cX3_put 29 = .ok (.iadd, 1) := by decide +kernel
theorem dX3_put_30 : decode cX3_put 30 = .ok (.iload_n 3, 1) := by decide +kernel
theorem dX3_put_31 : decode cX3_put 31 = .ok (.iastore, 1) := by decide +kernel
theorem dX3_put_32 : decode cX3_put 32 = .ok (.return_, 1) := by decide +kernel
theorem dX3_isZero_0 : decode cX3_isZero 0 = .ok (.aload_n 0, 1) := by decide +kernel
theorem dX3_isZero_1 : decode cX3_isZero 1 = .ok (.iload_n 1, 1) := by decide +kernel
theorem dX3_isZero_2 : decode cX3_isZero 2 = .ok (.iload_n 2, 1) := by decide +kernel
theorem dX3_isZero_3 : decode cX3_isZero 3 = .ok (.invokevirtual 33, 3) := by decide +kernel
theorem dX3_isZero_6 : decode cX3_isZero 6 = .ok (.ifCond .ne 18, 3) := by decide +kernel
theorem dX3_isZero_9 : decode cX3_isZero 9 = .ok (.aload_n 0, 1) := by decide +kernel
theorem dX3_isZero_10 : decode cX3_isZero 10 = .ok (.iload_n 1, 1) := by decide +kernel
theorem dX3_isZero_11 : decode cX3_isZero 11 = .ok (.iload_n 2, 1) := by decide +kernel
theorem dX3_isZero_12 : decode cX3_isZero 12 = .ok (.iconst 1, 1) := by decide +kernel
theorem dX3_isZero_13 : decode cX3_isZero 13 = .ok (.iadd, 1) := by decide +kernel
theorem dX3_isZero_14 : decode cX3_isZero 14 = .ok (.invokevirtual 33, 3) := by decide +kernel
theorem dX3_isZero_17 : decode cX3_isZero 17 = .ok (.ifCond .ne 7, 3) := by decide +kernel
theorem dX3_isZero_20 : decode cX3_isZero 20 = .ok (.iconst 1, 1) := by decide +kernel
theorem dX3_isZero_21 : decode cX3_isZero 21 = .ok (.goto 4, 3) := by decide +kernel
theorem dX3_isZero_24 : decode cX3_isZero 24 = .ok (.iconst 0, 1) := by decide +kernel
theorem dX3_isZero_25 : decode cX3_isZero 25 = .ok (.ireturn, 1) := by decide +kernel
theorem dX3_isSmooth_0 : decode cX3_isSmooth 0 = .ok (.aload_n 0, 1) := by decide +kernel
theorem dX3_isSmooth_1 : decode cX3_isSmooth 1 = .ok (.iload_n 1, 1) := by decide +kernel
theorem dX3_isSmooth_2 : decode cX3_isSmooth 2 = .ok (.bipush 6, 2) := by decide +kernel
theorem dX3_isSmooth_4 : decode cX3_isSmooth 4 = .ok (.invokevirtual 33, 3) := by decide +kernel
theorem dX3_isSmooth_7 : decode cX3_isSmooth 7 = .ok (.ifCond .eq 7, 3) := by decide +kernel
theorem dX3_isSmooth_10 : decode cX3_isSmooth 10 = .ok (.iconst 1, 1) := by decide +kernel
theorem dX3_isSmooth_11 : decode cX3_isSmooth 11 = .ok (.goto 4, 3) := by decide +kernel
theorem dX3_isSmooth_14 : decode cX3_isSmooth 14 = .ok (.iconst 0, 1) := by decide +kernel
theorem dX3_isSmooth_15 : decode cX3_isSmooth 15 = .ok (.ireturn, 1) := by decide +kernel
theorem dX3_ratioNumber_0 : decode cX3_ratioNumber 0 = .ok (.aload_n 0, 1) := by decide +kernel
theorem dX3_ratioNumber_1 : decode cX3_ratioNumber 1 = .ok (.iload_n 1, 1) := by decide +kernel
theorem dX3_ratioNumber_2 : decode cX3_ratioNumber 2 = .ok (.invokevirtual 37, 3) := by decide +kernel
theorem dX3_ratioNumber_5 : decode cX3_ratioNumber 5 = .ok (.ifCond .eq 12, 3) := by decide +kernel
theorem dX3_ratioNumber_8 : decode cX3_ratioNumber 8 = .ok (.aload_n 0, 1) := by decide +kernel
theorem dX3_ratioNumber_9 : decode cX3_ratioNumber 9 = .ok (.iload_n 1, 1) := by decide +kernel
theorem dX3_ratioNumber_10 : decode cX3_ratioNumber 10 = .ok (.iload_n 2, 1) := by decide +kernel
theorem dX3_ratioNumber_11 : decode cX3_ratioNumber 11 = .ok (.invokevirtual 33, 3) := by decide +kernel
theorem dX3_ratioNumber_14 : decode cX3_ratioNumber 14 = .ok (.goto 5, 3) := by decide +kernel
theorem dX3_ratioNumber_17 : decode cX3_ratioNumber 17 = .ok (.ldc 41, 2) := by decide +kernel
theorem dX3_ratioNumber_19 : decode cX3_ratioNumber 19 = .ok (.ireturn, 1) := by decide +kernel
theorem dX3_makeCorner_0 : decode cX3_makeCorner 0 = .ok (.aload_n 0, 1) := by decide +kernel
theorem dX3_makeCorner_1 : decode cX3_makeCorner 1 = .ok (.iload_n 1, 1) := by decide +kernel
theorem dX3_makeCorner_2 : decode cX3_makeCorner 2 = .ok (.bipush 6, 2) := by decide +kernel
theorem dX3_makeCorner_4 : decode cX3_makeCorner 4 = .ok (.iconst 0, 1) := by decide +kernel
theorem dX3_makeCorner_5 : decode cX3_makeCorner 5 = .ok (.invokevirtual 42, 3) := by decide +kernel
theorem dX3_makeCorner_8 : decode cX3_makeCorner 8 = .ok (.aload_n 0, 1) := by decide +kernel
theorem dX3_makeCorner_9 : decode cX3_makeCorner 9 = .ok (.iload_n 1, 1) := by decide +kernel
theorem dX3_makeCorner_10 : decode cX3_makeCorner 10 = .ok (.bipush 7, 2) := by decide +kernel
theorem dX3_makeCorner_12 : decode cX3_makeCorner 12 = .ok (.iconst 0, 1) := by decide +kernel
theorem dX3_makeCorner_13 : decode cX3_makeCorner 13 = .ok (.invokevirtual 42, 3) := by decide +kernel
theorem dX3_makeCorner_16 : decode cX3_makeCorner 16 = .ok (.return_, 1) := by decide +kernel
theorem dX3_putRatio_0 : decode cX3_putRatio 0 = .ok (.iload_n 2, 1) := by decide +kernel
theorem dX3_putRatio_1 : decode cX3_putRatio 1 = .ok (.iload_n 3, 1) := by decide +kernel
theorem dX3_putRatio_2 : decode cX3_putRatio 2 = .ok (.invokestatic 46, 3) := by decide +kernel
theorem dX3_putRatio_5 : decode cX3_putRatio 5 = .ok (.istore 4, 2) := by decide +kernel
theorem dX3_putRatio_7 : decode cX3_putRatio 7 = .ok (.iload 4, 2) := by decide +kernel
theorem dX3_putRatio_9 : decode cX3_putRatio 9 = .ok (.ifCond .eq 23, 3) := by decide +kernel
theorem dX3_putRatio_12 : decode cX3_putRatio 12 = .ok (.iload_n 2, 1) := by decide +kernel
theorem dX3_putRatio_13 : decode cX3_putRatio 13 = .ok (.iload 4, 2) := by decide +kernel
theorem dX3_putRatio_15 : decode cX3_putRatio 15 = .ok (.idiv, 1) := by decide +kernel
theorem dX3_putRatio_16 : decode cX3_putRatio 16 = .ok (.sipush 999, 3) := by decide +kernel
theorem dX3_putRatio_19 : decode cX3_putRatio 19 = .ok (.if_icmp .gt 13, 3) := by decide +kernel
theorem dX3_putRatio_22 : decode cX3_putRatio 22 = .ok (.iload_n 3, 1) := by decide +kernel
theorem dX3_putRatio_23 : decode cX3_putRatio 23 = .ok (.iload 4, 2) := by decide +kernel
theorem dX3_putRatio_25 : decode cX3_putRatio 25 = .ok (.idiv, 1) := by decide +kernel
theorem dX3_putRatio_26 : decode cX3_putRatio 26 = .ok (.sipush 999, 3) := by decide +kernel
theorem dX3_putRatio_29 : decode cX3_putRatio 29 = .ok (.if_icmp .le 9, 3) := by decide +kernel
theorem dX3_putRatio_32 : decode cX3_putRatio 32 = .ok (.aload_n 0, 1) := by decide +kernel
theorem dX3_putRatio_33 : decode cX3_putRatio 33 = .ok (.iload_n 1, 1) := by decide +kernel
theorem dX3_putRatio_34 : decode cX3_putRatio 34 = .ok (.invokevirtual 49, 3) := by decide +kernel
theorem dX3_putRatio_37 : decode cX3_putRatio 37 = .ok (.return_, 1) := by decide +kernel
theorem dX3_putRatio_38 : decode cX3_putRatio 38 = .ok (.aload_n 0, 1) := by decide +kernel
theorem dX3_putRatio_39 : decode cX3_putRatio 39 = .ok (.iload_n 1, 1) := by decide +kernel
theorem dX3_putRatio_40 : decode cX3_putRatio 40 = .ok (.bipush 6, 2) := by decide +kernel
theorem dX3_putRatio_42 : decode cX3_putRatio 42 = .ok (.iload_n 2, 1) := by decide +kernel
theorem dX3_putRatio_43 : decode cX3_putRatio 43 = .ok (.iload 4, 2) := by decide +kernel
theorem dX3_putRatio_45 : decode cX3_putRatio 45 = .ok (.idiv, 1) := by decide +kernel
theorem dX3_putRatio_46 : decode cX3_putRatio 46 = .ok (.invokevirtual 42, 3) := by decide +kernel
theorem dX3_putRatio_49 : decode cX3_putRatio 49 = .ok (.aload_n 0, 1) := by decide +kernel
theorem dX3_putRatio_50 : decode cX3_putRatio 50 = .ok (.iload_n 1, 1) := by decide +kernel
theorem dX3_putRatio_51 : decode cX3_putRatio 51 = .ok (.bipush 7, 2) := by decide +kernel
theorem dX3_putRatio_53 : decode cX3_putRatio 53 = .ok (.iload_n 3, 1) := by decide +kernel
theorem dX3_putRatio_54 : decode cX3_putRatio 54 = .ok (.iload 4, 2) := by decide +kernel
theorem dX3_putRatio_56 : decode cX3_putRatio 56 = .ok (.idiv, 1) := by decide +kernel
theorem dX3_putRatio_57 : decode cX3_putRatio 57 = .ok (.invokevirtual 42, 3) := by decide +kernel
theorem dX3_putRatio_60 : decode cX3_putRatio 60 = .ok (.return_, 1) := by decide +kernel
theorem dX3_greatestDivisor_0 : decode cX3_greatestDivisor 0 = .ok (.iload_n 0, 1) := by decide +kernel
theorem dX3_greatestDivisor_1 : decode cX3_greatestDivisor 1 = .ok (.istore_n 2, 1) := by decide +kernel
theorem dX3_greatestDivisor_2 : decode cX3_greatestDivisor 2 = .ok (.iload_n 1, 1) := by decide +kernel
theorem dX3_greatestDivisor_3 : decode cX3_greatestDivisor 3 = .ok (.istore_n 3, 1) := by decide +kernel
theorem dX3_greatestDivisor_4 : decode cX3_greatestDivisor 4 = .ok (.iconst 0, 1) := by decide +kernel
theorem dX3_greatestDivisor_5 : decode cX3_greatestDivisor 5 = .ok (.istore 4, 2) := by decide +kernel
theorem dX3_greatestDivisor_7 : decode cX3_greatestDivisor 7 = .ok (.iload 4, 2) := by decide +kernel
theorem dX3_greatestDivisor_9 : decode cX3_greatestDivisor 9 = .ok (.bipush 100, 2) := by decide +kernel
theorem dX3_greatestDivisor_11 : decode cX3_greatestDivisor 11 = .ok (.if_icmp .ge 23, 3) := by decide +kernel
theorem dX3_greatestDivisor_14 : decode cX3_greatestDivisor 14 = .ok (.iload_n 3, 1) := by decide +kernel
theorem dX3_greatestDivisor_15 : decode cX3_greatestDivisor 15 = .ok (.ifCond .eq 19, 3) := by decide +kernel
theorem dX3_greatestDivisor_18 : decode cX3_greatestDivisor 18 = .ok (.iload_n 2, 1) := by decide +kernel
theorem dX3_greatestDivisor_19 : decode cX3_greatestDivisor 19 = .ok (.iload_n 3, 1) := by decide +kernel
theorem dX3_greatestDivisor_20 : decode cX3_greatestDivisor 20 = .ok (.irem, 1) := by decide +kernel
theorem dX3_greatestDivisor_21 : decode cX3_greatestDivisor 21 = .ok (.istore 5, 2) := by decide +kernel
theorem dX3_greatestDivisor_23 : decode cX3_greatestDivisor 23 = .ok (.iload_n 3, 1) := by decide +kernel
theorem dX3_greatestDivisor_24 : decode cX3_greatestDivisor 24 = .ok (.istore_n 2, 1) := by decide +kernel
theorem dX3_greatestDivisor_25 : decode cX3_greatestDivisor 25 = .ok (.iload 5, 2) := by decide +kernel
theorem dX3_greatestDivisor_27 : decode cX3_greatestDivisor 27 = .ok (.istore_n 3, 1) := by decide +kernel
theorem dX3_greatestDivisor_28 : decode cX3_greatestDivisor 28 = .ok (.iinc 4 1, 3) := by decide +kernel
theorem dX3_greatestDivisor_31 : decode cX3_greatestDivisor 31 = .ok (.goto (-24), 3) := by decide +kernel
theorem dX3_greatestDivisor_34 : decode cX3_greatestDivisor 34 = .ok (.iload_n 2, 1) := by decide +kernel
theorem dX3_greatestDivisor_35 : decode cX3_greatestDivisor 35 = .ok (.ireturn, 1) := by decide +kernel
theorem dX3_fitHandle_0 : decode cX3_fitHandle 0 = .ok (.iload_n 2, 1) := by decide +kernel
theorem dX3_fitHandle_1 : decode cX3_fitHandle 1 = .ok (.ifCond .eq 7, 3) := by decide +kernel
theorem dX3_fitHandle_4 : decode cX3_fitHandle 4 = .ok (.iconst 4, 1) := by decide +kernel
theorem dX3_fitHandle_5 : decode cX3_fitHandle 5 = .ok (.goto 4, 3) := by decide +kernel
theorem dX3_fitHandle_8 : decode cX3_fitHandle 8 = .ok (.iconst 2, 1) := by decide +kernel
theorem dX3_fitHandle_9 : decode cX3_fitHandle 9 = .ok (.istore 4, 2) := by decide +kernel
theorem dX3_fitHandle_11 : decode cX3_fitHandle 11 = .ok (.iload_n 2, 1) := by decide +kernel
theorem dX3_fitHandle_12 : decode cX3_fitHandle 12 = .ok (.ifCond .eq 7, 3) := by decide +kernel
theorem dX3_fitHandle_15 : decode cX3_fitHandle 15 = .ok (.iconst 2, 1) := by decide +kernel
theorem dX3_fitHandle_16 : decode cX3_fitHandle 16 = .ok (.goto 4, 3) := by decide +kernel
theorem dX3_fitHandle_19 : decode cX3_fitHandle 19 = .ok (.iconst 4, 1) := by decide +kernel
theorem dX3_fitHandle_20 : decode cX3_fitHandle 20 = .ok (.istore 5, 2) := by decide +kernel
theorem dX3_fitHandle_22 : decode cX3_fitHandle 22 = .ok (.aload_n 0, 1) := by decide +kernel
theorem dX3_fitHandle_23 : decode cX3_fitHandle 23 = .ok (.iload_n 1, 1) := by decide +kernel
theorem dX3_fitHandle_24 : decode cX3_fitHandle 24 = .ok (.iload_n 2, 1) := by decide +kernel
theorem dX3_fitHandle_25 : decode cX3_fitHandle 25 = .ok (.ifCond .eq 8, 3) := by decide +kernel
theorem dX3_fitHandle_28 : decode cX3_fitHandle 28 = .ok (.bipush 7, 2) := by decide +kernel
theorem dX3_fitHandle_30 : decode cX3_fitHandle 30 = .ok (.goto 5, 3) := by decide +kernel
theorem dX3_fitHandle_33 : decode cX3_fitHandle 33 = .ok (.bipush 6, 2) := by decide +kernel
theorem dX3_fitHandle_35 : decode cX3_fitHandle 35 = .ok (.invokevirtual 33, 3) := by decide +kernel
theorem dX3_fitHandle_38 : decode cX3_fitHandle 38 = .ok (.i2l, 1) := by decide +kernel
theorem dX3_fitHandle_39 : decode cX3_fitHandle 39 = .ok (.lstore 6, 2) := by decide +kernel
theorem dX3_fitHandle_41 : decode cX3_fitHandle 41 = .ok (.aload_n 0, 1) := by decide +kernel
theorem dX3_fitHandle_42 : decode cX3_fitHandle 42 = .ok (.iload_n 1, 1) := by decide +kernel
theorem dX3_fitHandle_43 : decode cX3_fitHandle 43 = .ok (.iload_n 2, 1) := by decide +kernel
theorem dX3_fitHandle_44 : decode cX3_fitHandle 44 = .ok (.ifCond .eq 8, 3) := by decide +kernel
theorem dX3_fitHandle_47 : decode cX3_fitHandle 47 = .ok (.bipush 6, 2) := by decide +kernel
theorem dX3_fitHandle_49 : decode cX3_fitHandle 49 = .ok (.goto 5, 3) := by decide +kernel
theorem dX3_fitHandle_52 : decode cX3_fitHandle 52 = .ok (.bipush 7, 2) := by decide +kernel
theorem dX3_fitHandle_54 : decode cX3_fitHandle 54 = .ok (.invokevirtual 33, 3) := by decide +kernel
theorem dX3_fitHandle_57 : decode cX3_fitHandle 57 = .ok (.i2l, 1) := by decide +kernel
theorem dX3_fitHandle_58 : decode cX3_fitHandle 58 = .ok (.lstore 8, 2) := by decide +kernel
theorem dX3_fitHandle_60 : decode cX3_fitHandle 60 = .ok (.iconst 0, 1) := by decide +kernel
theorem dX3_fitHandle_61 : decode cX3_fitHandle 61 = .ok (.istore 10, 2) := by decide +kernel
theorem dX3_fitHandle_63 : decode cX3_fitHandle 63 = .ok (.iload 10, 2) := by decide +kernel
theorem dX3_fitHandle_65 : decode cX3_fitHandle 65 = .ok (.iconst 2, 1) := by decide +kernel
theorem dX3_fitHandle_66 : decode cX3_fitHandle 66 = .ok (.if_icmp .ge 40, 3) := by decide +kernel
theorem dX3_fitHandle_69 : decode cX3_fitHandle 69 = .ok (.aload_n 0, 1) := by decide +kernel
theorem dX3_fitHandle_70 : decode cX3_fitHandle 70 = .ok (.iload_n 1, 1) := by decide +kernel
theorem dX3_fitHandle_71 : decode cX3_fitHandle 71 = .ok (.iload 4, 2) := by decide +kernel
theorem dX3_fitHandle_73 : decode cX3_fitHandle 73 = .ok (.iload 10, 2) := by decide +kernel
theorem dX3_fitHandle_75 : decode cX3_fitHandle 75 = .ok (.iadd, 1) := by decide +kernel
theorem dX3_fitHandle_76 : decode cX3_fitHandle 76 = .ok (.aload_n 3, 1) := by decide +kernel
theorem dX3_fitHandle_77 : decode cX3_fitHandle 77 = .ok (.lload 6, 2) := by decide +kernel
theorem dX3_fitHandle_79 : decode cX3_fitHandle 79 = .ok (.lneg, 1) := by decide +kernel
theorem dX3_fitHandle_80 : decode cX3_fitHandle 80 = .ok (.aload_n 0, 1) := by decide +kernel
theorem dX3_fitHandle_81 : decode cX3_fitHandle 81 = .ok (.iload_n 1, 1) := by decide +kernel
theorem dX3_fitHandle_82 : decode cX3_fitHandle 82 = .ok (.iload 5, 2) := by decide +kernel
theorem dX3_fitHandle_84 : decode cX3_fitHandle 84 = .ok (.iload 10, 2) := by decide +kernel
theorem dX3_fitHandle_86 : decode cX3_fitHandle 86 = .ok (.iadd, 1) := by decide +kernel
theorem dX3_fitHandle_87 : decode cX3_fitHandle 87 = .ok (.invokevirtual 33, 3) := by decide +kernel
theorem dX3_fitHandle_90 : decode cX3_fitHandle 90 = .ok (.i2l, 1) := by decide +kernel
theorem dX3_fitHandle_91 : decode cX3_fitHandle 91 = .ok (.lmul, 1) := by decide +kernel
theorem dX3_fitHandle_92 : decode cX3_fitHandle 92 = .ok (.lload 8, 2) := by decide +kernel
theorem dX3_fitHandle_94 : decode cX3_fitHandle 94 = .ok (.invokevirtual 53, 3) := by decide +kernel
theorem dX3_fitHandle_97 : decode cX3_fitHandle 97 = .ok (.invokevirtual 42, 3) := by decide +kernel
theorem dX3_fitHandle_100 : decode cX3_fitHandle 100 = .ok (.iinc 10 1, 3) := by decide +kernel
theorem dX3_fitHandle_103 : decode cX3_fitHandle 103 = .ok (.goto (-40), 3) := by decide +kernel
theorem dX3_fitHandle_106 : decode cX3_fitHandle 106 = .ok (.return_, 1) := by decide +kernel
theorem dX3_handlesFit_0 : decode cX3_handlesFit 0 = .ok (.aload_n 0, 1) := by decide +kernel
theorem dX3_handlesFit_1 : decode cX3_handlesFit 1 = .ok (.iload_n 1, 1) := by decide +kernel
theorem dX3_handlesFit_2 : decode cX3_handlesFit 2 = .ok (.bipush 6, 2) := by decide +kernel
theorem dX3_handlesFit_4 : decode cX3_handlesFit 4 = .ok (.invokevirtual 33, 3) := by decide +kernel
theorem dX3_handlesFit_7 : decode cX3_handlesFit 7 = .ok (.i2l, 1) := by decide +kernel
theorem dX3_handlesFit_8 : decode cX3_handlesFit 8 = .ok (.lstore_n 2, 1) := by decide +kernel
theorem dX3_handlesFit_9 : decode cX3_handlesFit 9 = .ok (.aload_n 0, 1) := by decide +kernel
theorem dX3_handlesFit_10 : decode cX3_handlesFit 10 = .ok (.iload_n 1, 1) := by decide +kernel
theorem dX3_handlesFit_11 : decode cX3_handlesFit 11 = .ok (.bipush 7, 2) := by decide +kernel
theorem dX3_handlesFit_13 : decode cX3_handlesFit 13 = .ok (.invokevirtual 33, 3) := by decide +kernel
theorem dX3_handlesFit_16 : decode cX3_handlesFit 16 = .ok (.i2l, 1) := by decide +kernel
theorem dX3_handlesFit_17 : decode cX3_handlesFit 17 = .ok (.lstore 4, 2) := by decide +kernel
theorem dX3_handlesFit_19 : decode cX3_handlesFit 19 = .ok (.aload_n 0, 1) := by decide +kernel
theorem dX3_handlesFit_20 : decode cX3_handlesFit 20 = .ok (.iload_n 1, 1) := by decide +kernel
theorem dX3_handlesFit_21 : decode cX3_handlesFit 21 = .ok (.iconst 2, 1) := by decide +kernel
theorem dX3_handlesFit_22 : decode cX3_handlesFit 22 = .ok (.invokevirtual 33, 3) := by decide +kernel
theorem dX3_handlesFit_25 : decode cX3_handlesFit 25 = .ok (.i2l, 1) := by decide +kernel
theorem dX3_handlesFit_26 : decode cX3_handlesFit 26 = .ok (.lload 4, 2) := by decide +kernel
theorem dX3_handlesFit_28 : decode cX3_handlesFit 28 = .ok (.lmul, 1) := by decide +kernel
theorem dX3_handlesFit_29 : decode cX3_handlesFit 29 = .ok (.lload_n 2, 1) := by decide +kernel
theorem dX3_handlesFit_30 : decode cX3_handlesFit 30 = .ok (.lneg, 1) := by decide +kernel
theorem dX3_handlesFit_31 : decode cX3_handlesFit 31 = .ok (.aload_n 0, 1) := by decide +kernel
theorem dX3_handlesFit_32 : decode cX3_handlesFit 32 = .ok (.iload_n 1, 1) := by decide +kernel
theorem dX3_handlesFit_33 : decode cX3_handlesFit 33 = .ok (.iconst 4, 1) := by decide +kernel
theorem dX3_handlesFit_34 : decode cX3_handlesFit 34 = .ok (.invokevirtual 33, 3) := by decide +kernel
theorem dX3_handlesFit_37 : decode cX3_handlesFit 37 = .ok (.i2l, 1) := by decide +kernel
theorem dX3_handlesFit_38 : decode cX3_handlesFit 38 = .ok (.lmul, 1) := by decide +kernel
theorem dX3_handlesFit_39 : decode cX3_handlesFit 39 = .ok (.lcmp, 1) := by decide +kernel
theorem dX3_handlesFit_40 : decode cX3_handlesFit 40 = .ok (.ifCond .ne 31, 3) := by decide +kernel
theorem dX3_handlesFit_43 : decode cX3_handlesFit 43 = .ok (.aload_n 0, 1) := by decide +kernel
theorem dX3_handlesFit_44 : decode cX3_handlesFit 44 = .ok (.iload_n 1, 1) := by decide +kernel
theorem dX3_handlesFit_45 : decode cX3_handlesFit 45 = .ok (.iconst 3, 1) := by decide +kernel
theorem dX3_handlesFit_46 : decode cX3_handlesFit 46 = .ok (.invokevirtual 33, 3) := by decide +kernel
theorem dX3_handlesFit_49 : decode cX3_handlesFit 49 = .ok (.i2l, 1) := by decide +kernel
theorem dX3_handlesFit_50 : decode cX3_handlesFit 50 = .ok (.lload 4, 2) := by decide +kernel
theorem dX3_handlesFit_52 : decode cX3_handlesFit 52 = .ok (.lmul, 1) := by decide +kernel
theorem dX3_handlesFit_53 : decode cX3_handlesFit 53 = .ok (.lload_n 2, 1) := by decide +kernel
theorem dX3_handlesFit_54 : decode cX3_handlesFit 54 = .ok (.lneg, 1) := by decide +kernel
theorem dX3_handlesFit_55 : decode cX3_handlesFit 55 = .ok (.aload_n 0, 1) := by decide +kernel
theorem dX3_handlesFit_56 : decode cX3_handlesFit 56 = .ok (.iload_n 1, 1) := by decide +kernel
theorem dX3_handlesFit_57 : decode cX3_handlesFit 57 = .ok (.iconst 5, 1) := by decide +kernel
theorem dX3_handlesFit_58 : decode cX3_handlesFit 58 = .ok (.invokevirtual 33, 3) := by decide +kernel
theorem dX3_handlesFit_61 : decode cX3_handlesFit 61 = .ok (.i2l, 1) := by decide +kernel
theorem dX3_handlesFit_62 : decode cX3_handlesFit 62 = .ok (.lmul, 1) := by decide +kernel
theorem dX3_handlesFit_63 : decode cX3_handlesFit 63 = .ok (.lcmp, 1) := by decide +kernel
theorem dX3_handlesFit_64 : decode cX3_handlesFit 64 = .ok (.ifCond .ne 7, 3) := by decide +kernel
theorem dX3_handlesFit_67 : decode cX3_handlesFit 67 = .ok (.iconst 1, 1) := by decide +kernel
theorem dX3_handlesFit_68 : decode cX3_handlesFit 68 = .ok (.goto 4, 3) := by decide +kernel
theorem dX3_handlesFit_71 : decode cX3_handlesFit 71 = .ok (.iconst 0, 1) := by decide +kernel
theorem dX3_handlesFit_72 : decode cX3_handlesFit 72 = .ok (.ireturn, 1) := by decide +kernel
theorem dX3_moveBy_0 : decode cX3_moveBy 0 = .ok (.aload_n 0, 1) := by decide +kernel
theorem dX3_moveBy_1 : decode cX3_moveBy 1 = .ok (.iload_n 1, 1) := by decide +kernel
theorem dX3_moveBy_2 : decode cX3_moveBy 2 = .ok (.iconst 0, 1) := by decide +kernel
theorem dX3_moveBy_3 : decode cX3_moveBy 3 = .ok (.aload 4, 2) := by decide +kernel
theorem dX3_moveBy_5 : decode cX3_moveBy 5 = .ok (.aload_n 0, 1) := by decide +kernel
theorem dX3_moveBy_6 : decode cX3_moveBy 6 = .ok (.iload_n 1, 1) := by decide +kernel
theorem dX3_moveBy_7 : decode cX3_moveBy 7 = .ok (.iconst 0, 1) := by decide +kernel
theorem dX3_moveBy_8 : decode cX3_moveBy 8 = .ok (.invokevirtual 33, 3) := by decide +kernel
theorem dX3_moveBy_11 : decode cX3_moveBy 11 = .ok (.iload_n 2, 1) := by decide +kernel
theorem dX3_moveBy_12 : decode cX3_moveBy 12 = .ok (.iadd, 1) := by decide +kernel
theorem dX3_moveBy_13 : decode cX3_moveBy 13 = .ok (.i2l, 1) := by decide +kernel
theorem dX3_moveBy_14 : decode cX3_moveBy 14 = .ok (.lconst 1, 1) := by decide +kernel
theorem dX3_moveBy_15 : decode cX3_moveBy 15 = .ok (.invokevirtual 53, 3) := by decide +kernel
theorem dX3_moveBy_18 : decode cX3_moveBy 18 = .ok (.invokevirtual 42, 3) := by decide +kernel
theorem dX3_moveBy_21 : decode cX3_moveBy 21 = .ok (.aload_n 0, 1) := by decide +kernel
theorem dX3_moveBy_22 : decode cX3_moveBy 22 = .ok (.iload_n 1, 1) := by decide +kernel
theorem dX3_moveBy_23 : decode cX3_moveBy 23 = .ok (.iconst 1, 1) := by decide +kernel
theorem dX3_moveBy_24 : decode cX3_moveBy 24 = .ok (.aload 4, 2) := by decide +kernel
theorem dX3_moveBy_26 : decode cX3_moveBy 26 = .ok (.aload_n 0, 1) := by decide +kernel
theorem dX3_moveBy_27 : decode cX3_moveBy 27 = .ok (.iload_n 1, 1) := by decide +kernel
theorem dX3_moveBy_28 : decode cX3_moveBy 28 = .ok (.iconst 1, 1) := by decide +kernel
theorem dX3_moveBy_29 : decode cX3_moveBy 29 = .ok (.invokevirtual 33, 3) := by decide +kernel
theorem dX3_moveBy_32 : decode cX3_moveBy 32 = .ok (.iload_n 3, 1) := by decide +kernel
theorem dX3_moveBy_33 : decode cX3_moveBy 33 = .ok (.iadd, 1) := by decide +kernel
theorem dX3_moveBy_34 : decode cX3_moveBy 34 = .ok (.i2l, 1) := by decide +kernel
theorem dX3_moveBy_35 : decode cX3_moveBy 35 = .ok (.lconst 1, 1) := by decide +kernel
theorem dX3_moveBy_36 : decode cX3_moveBy 36 = .ok (.invokevirtual 53, 3) := by decide +kernel
theorem dX3_moveBy_39 : decode cX3_moveBy 39 = .ok (.invokevirtual 42, 3) := by decide +kernel
theorem dX3_moveBy_42 : decode cX3_moveBy 42 = .ok (.return_, 1) := by decide +kernel
theorem dX3_addCorner_0 : decode cX3_addCorner 0 = .ok (.aload_n 0, 1) := by decide +kernel
theorem dX3_addCorner_1 : decode cX3_addCorner 1 = .ok (.getfield 21, 3) := by decide +kernel
theorem dX3_addCorner_4 : decode cX3_addCorner 4 = .ok (.bipush 12, 2) := by decide +kernel
theorem dX3_addCorner_6 : decode cX3_addCorner 6 = .ok (.if_icmp .lt 4, 3) := by decide +kernel
theorem dX3_addCorner_9 : decode cX3_addCorner 9 = .ok (.return_, 1) := by decide +kernel
theorem dX3_addCorner_10 : decode cX3_addCorner 10 = .ok (.iconst 0, 1) := by decide +kernel
theorem dX3_addCorner_11 : decode cX3_addCorner 11 = .ok (.istore_n 3, 1) := by decide +kernel
theorem dX3_addCorner_12 : decode cX3_addCorner 12 = .ok (.iload_n 3, 1) := by decide +kernel
theorem dX3_addCorner_13 : decode cX3_addCorner 13 = .ok (.bipush 8, 2) := by decide +kernel
theorem dX3_addCorner_15 : decode cX3_addCorner 15 = .ok (.if_icmp .ge 19, 3) := by decide +kernel
theorem dX3_addCorner_18 : decode cX3_addCorner 18 = .ok (.aload_n 0, 1) := by decide +kernel
theorem dX3_addCorner_19 : decode cX3_addCorner 19 = .ok (.aload_n 0, 1) := by decide +kernel
theorem dX3_addCorner_20 : decode cX3_addCorner 20 = .ok (.getfield 21, 3) := by decide +kernel
theorem dX3_addCorner_23 : decode cX3_addCorner 23 = .ok (.iload_n 3, 1) := by decide +kernel
theorem dX3_addCorner_24 : decode cX3_addCorner 24 = .ok (.iconst 0, 1) := by decide +kernel
theorem dX3_addCorner_25 : decode cX3_addCorner 25 = .ok (.invokevirtual 42, 3) := by decide +kernel
theorem dX3_addCorner_28 : decode cX3_addCorner 28 = .ok (.iinc 3 1, 3) := by decide +kernel
theorem dX3_addCorner_31 : decode cX3_addCorner 31 = .ok (.goto (-19), 3) := by decide +kernel
theorem dX3_addCorner_34 : decode cX3_addCorner 34 = .ok (.aload_n 0, 1) := by decide +kernel
theorem dX3_addCorner_35 : decode cX3_addCorner 35 = .ok (.aload_n 0, 1) := by decide +kernel
theorem dX3_addCorner_36 : decode cX3_addCorner 36 = .ok (.getfield 21, 3) := by decide +kernel
theorem dX3_addCorner_39 : decode cX3_addCorner 39 = .ok (.iconst 0, 1) := by decide +kernel
theorem dX3_addCorner_40 : decode cX3_addCorner 40 = .ok (.iload_n 1, 1) := by decide +kernel
theorem dX3_addCorner_41 : decode cX3_addCorner 41 = .ok (.invokevirtual 42, 3) := by decide +kernel
theorem dX3_addCorner_44 : decode cX3_addCorner 44 = .ok (.aload_n 0, 1) := by decide +kernel
theorem dX3_addCorner_45 : decode cX3_addCorner 45 = .ok (.aload_n 0, 1) := by decide +kernel
theorem dX3_addCorner_46 : decode cX3_addCorner 46 = .ok (.getfield 21, 3) := by decide +kernel
theorem dX3_addCorner_49 : decode cX3_addCorner 49 = .ok (.iconst 1, 1) := by decide +kernel
theorem dX3_addCorner_50 : decode cX3_addCorner 50 = .ok (.iload_n 2, 1) := by decide +kernel
theorem dX3_addCorner_51 : decode cX3_addCorner 51 = .ok (.invokevirtual 42, 3) := by decide +kernel
theorem dX3_addCorner_54 : decode cX3_addCorner 54 = .ok (.aload_n 0, 1) := by decide +kernel
theorem dX3_addCorner_55 : decode cX3_addCorner 55 = .ok (.dup, 1) := by decide +kernel
theorem dX3_addCorner_56 : decode cX3_addCorner 56 = .ok (.getfield 21, 3) := by decide +kernel
theorem dX3_addCorner_59 : decode cX3_addCorner 59 = .ok (.iconst 1, 1) := by decide +kernel
theorem dX3_addCorner_60 : decode cX3_addCorner 60 = .ok (.iadd, 1) := by decide +kernel
theorem dX3_addCorner_61 : decode cX3_addCorner 61 = .ok (.putfield 21, 3) := by decide +kernel
theorem dX3_addCorner_64 : decode cX3_addCorner 64 = .ok (.return_, 1) := by decide +kernel
theorem dX3_copyNode_0 : decode cX3_copyNode 0 = .ok (.iconst 0, 1) := by decide +kernel
theorem dX3_copyNode_1 : decode cX3_copyNode 1 = .ok (.istore 4, 2) := by decide +kernel
theorem dX3_copyNode_3 : decode cX3_copyNode 3 = .ok (.iload 4, 2) := by decide +kernel
theorem dX3_copyNode_5 : decode cX3_copyNode 5 = .ok (.bipush 8, 2) := by decide +kernel
theorem dX3_copyNode_7 : decode cX3_copyNode 7 = .ok (.if_icmp .ge 23, 3) := by decide +kernel
theorem dX3_copyNode_10 : decode cX3_copyNode 10 = .ok (.aload_n 0, 1) := by decide +kernel
theorem dX3_copyNode_11 : decode cX3_copyNode 11 = .ok (.iload_n 1, 1) := by decide +kernel
theorem dX3_copyNode_12 : decode cX3_copyNode 12 = .ok (.iload 4, 2) := by decide +kernel
theorem dX3_copyNode_14 : decode cX3_copyNode 14 = .ok (.aload_n 2, 1) := by decide +kernel
theorem dX3_copyNode_15 : decode cX3_copyNode 15 = .ok (.iload_n 3, 1) := by decide +kernel
theorem dX3_copyNode_16 : decode cX3_copyNode 16 = .ok (.iload 4, 2) := by decide +kernel
theorem dX3_copyNode_18 : decode cX3_copyNode 18 = .ok (.invokevirtual 33, 3) := by decide +kernel
theorem dX3_copyNode_21 : decode cX3_copyNode 21 = .ok (.invokevirtual 42, 3) := by decide +kernel
theorem dX3_copyNode_24 : decode cX3_copyNode 24 = .ok (.iinc 4 1, 3) := by decide +kernel
theorem dX3_copyNode_27 : decode cX3_copyNode 27 = .ok (.goto (-24), 3) := by decide +kernel
theorem dX3_copyNode_30 : decode cX3_copyNode 30 = .ok (.return_, 1) := by decide +kernel
theorem dX3_addCopy_0 : decode cX3_addCopy 0 = .ok (.aload_n 0, 1) := by decide +kernel
theorem dX3_addCopy_1 : decode cX3_addCopy 1 = .ok (.getfield 21, 3) := by decide +kernel
theorem dX3_addCopy_4 : decode cX3_addCopy 4 = .ok (.bipush 12, 2) := by decide +kernel
theorem dX3_addCopy_6 : decode cX3_addCopy 6 = .ok (.if_icmp .ge 23, 3) := by decide +kernel
theorem dX3_addCopy_9 : decode cX3_addCopy 9 = .ok (.aload_n 0, 1) := by decide +kernel
theorem dX3_addCopy_10 : decode cX3_addCopy 10 = .ok (.aload_n 0, 1) := by decide +kernel
theorem dX3_addCopy_11 : decode cX3_addCopy 11 = .ok (.getfield 21, 3) := by decide +kernel
theorem dX3_addCopy_14 : decode cX3_addCopy 14 = .ok (.aload_n 1, 1) := by decide +kernel
theorem dX3_addCopy_15 : decode cX3_addCopy 15 = .ok (.iload_n 2, 1) := by decide +kernel
theorem dX3_addCopy_16 : decode cX3_addCopy 16 = .ok (.invokevirtual 59, 3) := by decide +kernel
theorem dX3_addCopy_19 : decode cX3_addCopy 19 = .ok (.aload_n 0, 1) := by decide +kernel
theorem dX3_addCopy_20 : decode cX3_addCopy 20 = .ok (.dup, 1) := by decide +kernel
theorem dX3_addCopy_21 : decode cX3_addCopy 21 = .ok (.getfield 21, 3) := by decide +kernel
theorem dX3_addCopy_24 : decode cX3_addCopy 24 = .ok (.iconst 1, 1) := by decide +kernel
theorem dX3_addCopy_25 : decode cX3_addCopy 25 = .ok (.iadd, 1) := by decide +kernel
theorem dX3_addCopy_26 : decode cX3_addCopy 26 = .ok (.putfield 21, 3) := by decide +kernel
theorem dX3_addCopy_29 : decode cX3_addCopy 29 = .ok (.return_, 1) := by decide +kernel
theorem dX3_addNodesOf_0 : decode cX3_addNodesOf 0 = .ok (.iconst 0, 1) := by decide +kernel
theorem dX3_addNodesOf_1 : decode cX3_addNodesOf 1 = .ok (.istore_n 2, 1) := by decide +kernel
theorem dX3_addNodesOf_2 : decode cX3_addNodesOf 2 = .ok (.iload_n 2, 1) := by decide +kernel
theorem dX3_addNodesOf_3 : decode cX3_addNodesOf 3 = .ok (.aload_n 1, 1) := by decide +kernel
theorem dX3_addNodesOf_4 : decode cX3_addNodesOf 4 = .ok (.getfield 21, 3) := by decide +kernel
theorem dX3_addNodesOf_7 : decode cX3_addNodesOf 7 = .ok (.if_icmp .ge 15, 3) := by decide +kernel
theorem dX3_addNodesOf_10 : decode cX3_addNodesOf 10 = .ok (.aload_n 0, 1) := by decide +kernel
theorem dX3_addNodesOf_11 : decode cX3_addNodesOf 11 = .ok (.aload_n 1, 1) := by decide +kernel
theorem dX3_addNodesOf_12 : decode cX3_addNodesOf 12 = .ok (.iload_n 2, 1) := by decide +kernel
theorem dX3_addNodesOf_13 : decode cX3_addNodesOf 13 = .ok (.invokevirtual 63, 3) := by decide +kernel
theorem dX3_addNodesOf_16 : decode cX3_addNodesOf 16 = .ok (.iinc 2 1, 3) := by decide +kernel
theorem dX3_addNodesOf_19 : decode cX3_addNodesOf 19 = .ok (.goto (-17), 3) := by decide +kernel
theorem dX3_addNodesOf_22 : decode cX3_addNodesOf 22 = .ok (.return_, 1) := by decide +kernel
theorem dX3_dropNode_0 : decode cX3_dropNode 0 = .ok (.iload_n 1, 1) := by decide +kernel
theorem dX3_dropNode_1 : decode cX3_dropNode 1 = .ok (.istore_n 2, 1) := by decide +kernel
theorem dX3_dropNode_2 : decode cX3_dropNode 2 = .ok (.iload_n 2, 1) := by decide +kernel
theorem dX3_dropNode_3 : decode cX3_dropNode 3 = .ok (.aload_n 0, 1) := by decide +kernel
theorem dX3_dropNode_4 : decode cX3_dropNode 4 = .ok (.getfield 21, 3) := by decide +kernel
theorem dX3_dropNode_7 : decode cX3_dropNode 7 = .ok (.iconst 1, 1) := by decide +kernel
theorem dX3_dropNode_8 : decode cX3_dropNode 8 = .ok (.isub, 1) := by decide +kernel
theorem dX3_dropNode_9 : decode cX3_dropNode 9 = .ok (.if_icmp .ge 18, 3) := by decide +kernel
theorem dX3_dropNode_12 : decode cX3_dropNode 12 = .ok (.aload_n 0, 1) := by decide +kernel
theorem dX3_dropNode_13 : decode cX3_dropNode 13 = .ok (.iload_n 2, 1) := by decide +kernel
theorem dX3_dropNode_14 : decode cX3_dropNode 14 = .ok (.aload_n 0, 1) := by decide +kernel
theorem dX3_dropNode_15 : decode cX3_dropNode 15 = .ok (.iload_n 2, 1) := by decide +kernel
theorem dX3_dropNode_16 : decode cX3_dropNode 16 = .ok (.iconst 1, 1) := by decide +kernel
theorem dX3_dropNode_17 : decode cX3_dropNode 17 = .ok (.iadd, 1) := by decide +kernel
theorem dX3_dropNode_18 : decode cX3_dropNode 18 = .ok (.invokevirtual 59, 3) := by decide +kernel
theorem dX3_dropNode_21 : decode cX3_dropNode 21 = .ok (.iinc 2 1, 3) := by decide +kernel
theorem dX3_dropNode_24 : decode cX3_dropNode 24 = .ok (.goto (-22), 3) := by decide +kernel
theorem dX3_dropNode_27 : decode cX3_dropNode 27 = .ok (.aload_n 0, 1) := by decide +kernel
theorem dX3_dropNode_28 : decode cX3_dropNode 28 = .ok (.dup, 1) := by decide +kernel
theorem dX3_dropNode_29 : decode cX3_dropNode 29 = .ok (.getfield 21, 3) := by decide +kernel
theorem dX3_dropNode_32 : decode cX3_dropNode 32 = .ok (.iconst 1, 1) := by decide +kernel
theorem dX3_dropNode_33 : decode cX3_dropNode 33 = .ok (.isub, 1) := by decide +kernel
theorem dX3_dropNode_34 : decode cX3_dropNode 34 = .ok (.putfield 21, 3) := by decide +kernel
theorem dX3_dropNode_37 : decode cX3_dropNode 37 = .ok (.return_, 1) := by decide +kernel
theorem dX3_doubleNode_0 : decode cX3_doubleNode 0 = .ok (.aload_n 0, 1) := by decide +kernel
theorem dX3_doubleNode_1 : decode cX3_doubleNode 1 = .ok (.getfield 21, 3) := by decide +kernel
theorem dX3_doubleNode_4 : decode cX3_doubleNode 4 = .ok (.bipush 12, 2) := by decide +kernel
theorem dX3_doubleNode_6 : decode cX3_doubleNode 6 = .ok (.if_icmp .lt 4, 3) := by decide +kernel
theorem dX3_doubleNode_9 : decode cX3_doubleNode 9 = .ok (.return_, 1) := by decide +kernel
theorem dX3_doubleNode_10 : decode cX3_doubleNode 10 = .ok (.aload_n 0, 1) := by decide +kernel
theorem dX3_doubleNode_11 : decode cX3_doubleNode 11 = .ok (.getfield 21, 3) := by decide +kernel
theorem dX3_doubleNode_14 : decode cX3_doubleNode 14 = .ok (.istore_n 2, 1) := by decide +kernel
theorem dX3_doubleNode_15 : decode cX3_doubleNode 15 = .ok (.iload_n 2, 1) := by decide +kernel
theorem dX3_doubleNode_16 : decode cX3_doubleNode 16 = .ok (.iload_n 1, 1) := by decide +kernel
theorem dX3_doubleNode_17 : decode cX3_doubleNode 17 = .ok (.if_icmp .le 18, 3) := by decide +kernel
theorem dX3_doubleNode_20 : decode cX3_doubleNode 20 = .ok (.aload_n 0, 1) := by decide +kernel
theorem dX3_doubleNode_21 : decode cX3_doubleNode 21 = .ok (.iload_n 2, 1) := by decide +kernel
theorem dX3_doubleNode_22 : decode cX3_doubleNode 22 = .ok (.aload_n 0, 1) := by decide +kernel
theorem dX3_doubleNode_23 : decode cX3_doubleNode 23 = .ok (.iload_n 2, 1) := by decide +kernel
theorem dX3_doubleNode_24 : decode cX3_doubleNode 24 = .ok (.iconst 1, 1) := by decide +kernel
theorem dX3_doubleNode_25 : decode cX3_doubleNode 25 = .ok (.isub, 1) := by decide +kernel
theorem dX3_doubleNode_26 : decode cX3_doubleNode 26 = .ok (.invokevirtual 59, 3) := by decide +kernel
theorem dX3_doubleNode_29 : decode cX3_doubleNode 29 = .ok (.iinc 2 (-1), 3) := by decide +kernel
theorem dX3_doubleNode_32 : decode cX3_doubleNode 32 = .ok (.goto (-17), 3) := by decide +kernel
theorem dX3_doubleNode_35 : decode cX3_doubleNode 35 = .ok (.aload_n 0, 1) := by decide +kernel
theorem dX3_doubleNode_36 : decode cX3_doubleNode 36 = .ok (.dup, 1) := by decide +kernel
theorem dX3_doubleNode_37 : decode cX3_doubleNode 37 = .ok (.getfield 21, 3) := by decide +kernel
theorem dX3_doubleNode_40 : decode cX3_doubleNode 40 = .ok (.iconst 1, 1) := by decide +kernel
theorem dX3_doubleNode_41 : decode cX3_doubleNode 41 = .ok (.iadd, 1) := by decide +kernel
theorem dX3_doubleNode_42 : decode cX3_doubleNode 42 = .ok (.putfield 21, 3) := by decide +kernel
theorem dX3_doubleNode_45 : decode cX3_doubleNode 45 = .ok (.return_, 1) := by decide +kernel
theorem dX3_cutSegment_0 : decode cX3_cutSegment 0 = .ok (.iload_n 1, 1) := by decide +kernel
theorem dX3_cutSegment_1 : decode cX3_cutSegment 1 = .ok (.iconst 1, 1) := by decide +kernel
theorem dX3_cutSegment_2 : decode cX3_cutSegment 2 = .ok (.iadd, 1) := by decide +kernel
theorem dX3_cutSegment_3 : decode cX3_cutSegment 3 = .ok (.istore 6, 2) := by decide +kernel
theorem dX3_cutSegment_5 : decode cX3_cutSegment 5 = .ok (.aload_n 0, 1) := by decide +kernel
theorem dX3_cutSegment_6 : decode cX3_cutSegment 6 = .ok (.iload_n 1, 1) := by decide +kernel
theorem dX3_cutSegment_7 : decode cX3_cutSegment 7 = .ok (.invokevirtual 67, 3) := by decide +kernel
theorem dX3_cutSegment_10 : decode cX3_cutSegment 10 = .ok (.ifCond .ne 7, 3) := by decide +kernel
theorem dX3_cutSegment_13 : decode cX3_cutSegment 13 = .ok (.iconst 0, 1) := by decide +kernel
theorem dX3_cutSegment_14 : decode cX3_cutSegment 14 = .ok (.goto 6, 3) := by decide +kernel
theorem dX3_cutSegment_17 : decode cX3_cutSegment 17 = .ok (.iload_n 1, 1) := by decide +kernel
theorem dX3_cutSegment_18 : decode cX3_cutSegment 18 = .ok (.iconst 2, 1) := by decide +kernel
theorem dX3_cutSegment_19 : decode cX3_cutSegment 19 = .ok (.iadd, 1) := by decide +kernel
theorem dX3_cutSegment_20 : decode cX3_cutSegment 20 = .ok (.istore 7, 2) := by decide +kernel
theorem dX3_cutSegment_22 : decode cX3_cutSegment 22 = .ok (.iload_n 3, 1) := by decide +kernel
theorem dX3_cutSegment_23 : decode cX3_cutSegment 23 = .ok (.i2l, 1) := by decide +kernel
theorem dX3_cutSegment_24 : decode cX3_cutSegment 24 = .ok (.iload_n 3, 1) := by decide +kernel
theorem dX3_cutSegment_25 : decode cX3_cutSegment 25 = .ok (.i2l, 1) := by decide +kernel
theorem dX3_cutSegment_26 : decode cX3_cutSegment 26 = .ok (.lmul, 1) := by decide +kernel
theorem dX3_cutSegment_27 : decode cX3_cutSegment 27 = .ok (.iload_n 3, 1) := by decide +kernel
theorem dX3_cutSegment_28 : decode cX3_cutSegment 28 = .ok (.i2l, 1) := by decide +kernel
theorem dX3_cutSegment_29 : decode cX3_cutSegment 29 = .ok (.lmul, 1) := by decide +kernel
theorem dX3_cutSegment_30 : decode cX3_cutSegment 30 = .ok (.lstore 8, 2) := by decide +kernel
theorem dX3_cutSegment_32 : decode cX3_cutSegment 32 = .ok (.aload_n 0, 1) := by decide +kernel
theorem dX3_cutSegment_33 : decode cX3_cutSegment 33 = .ok (.iload_n 1, 1) := by decide +kernel
theorem dX3_cutSegment_34 : decode cX3_cutSegment 34 = .ok (.invokevirtual 71, 3) := by decide +kernel
theorem dX3_cutSegment_37 : decode cX3_cutSegment 37 = .ok (.iconst 0, 1) := by decide +kernel
theorem dX3_cutSegment_38 : decode cX3_cutSegment 38 = .ok (.istore 10, 2) := by decide +kernel
theorem dX3_cutSegment_40 : decode cX3_cutSegment 40 = .ok (.iload 10, 2) := by decide +kernel
theorem dX3_cutSegment_42 : decode cX3_cutSegment 42 = .ok (.iconst 2, 1) := by decide +kernel
theorem dX3_cutSegment_43 : decode cX3_cutSegment 43 = .ok (.if_icmp .ge 135, 3) := by decide +kernel
theorem dX3_cutSegment_46 : decode cX3_cutSegment 46 = .ok (.aload 4, 2) := by decide +kernel
theorem dX3_cutSegment_48 : decode cX3_cutSegment 48 = .ok (.aload_n 0, 1) := by decide +kernel
theorem dX3_cutSegment_49 : decode cX3_cutSegment 49 = .ok (.iload_n 1, 1) := by decide +kernel
theorem dX3_cutSegment_50 : decode cX3_cutSegment 50 = .ok (.iload 7, 2) := by decide +kernel
theorem dX3_cutSegment_52 : decode cX3_cutSegment 52 = .ok (.iload 10, 2) := by decide +kernel
theorem dX3_cutSegment_54 : decode cX3_cutSegment 54 = .ok (.iload_n 2, 1) := by decide +kernel
theorem dX3_cutSegment_55 : decode cX3_cutSegment 55 = .ok (.iload_n 3, 1) := by decide +kernel
theorem dX3_cutSegment_56 : decode cX3_cutSegment 56 = .ok (.invokevirtual 74, 3) := by decide +kernel
theorem dX3_cutSegment_59 : decode cX3_cutSegment 59 = .ok (.aload_n 0, 1) := by decide +kernel
theorem dX3_cutSegment_60 : decode cX3_cutSegment 60 = .ok (.iload 6, 2) := by decide +kernel
theorem dX3_cutSegment_62 : decode cX3_cutSegment 62 = .ok (.iconst 0, 1) := by decide +kernel
theorem dX3_cutSegment_63 : decode cX3_cutSegment 63 = .ok (.iload 10, 2) := by decide +kernel
theorem dX3_cutSegment_65 : decode cX3_cutSegment 65 = .ok (.iadd, 1) := by decide +kernel
theorem dX3_cutSegment_66 : decode cX3_cutSegment 66 = .ok (.aload 5, 2) := by decide +kernel
theorem dX3_cutSegment_68 : decode cX3_cutSegment 68 = .ok (.aload 4, 2) := by decide +kernel
theorem dX3_cutSegment_70 : decode cX3_cutSegment 70 = .ok (.getfield 80, 3) := by decide +kernel
theorem dX3_cutSegment_73 : decode cX3_cutSegment 73 = .ok (.lload 8, 2) := by decide +kernel
theorem dX3_cutSegment_75 : decode cX3_cutSegment 75 = .ok (.invokevirtual 53, 3) := by decide +kernel
theorem dX3_cutSegment_78 : decode cX3_cutSegment 78 = .ok (.invokevirtual 42, 3) := by decide +kernel
theorem dX3_cutSegment_81 : decode cX3_cutSegment 81 = .ok (.aload_n 0, 1) := by decide +kernel
theorem dX3_cutSegment_82 : decode cX3_cutSegment 82 = .ok (.iload 6, 2) := by decide +kernel
theorem dX3_cutSegment_84 : decode cX3_cutSegment 84 = .ok (.iconst 2, 1) := by decide +kernel
theorem dX3_cutSegment_85 : decode cX3_cutSegment 85 = .ok (.iload 10, 2) := by decide +kernel
theorem dX3_cutSegment_87 : decode cX3_cutSegment 87 = .ok (.iadd, 1) := by decide +kernel
theorem dX3_cutSegment_88 : decode cX3_cutSegment 88 = .ok (.aload 5, 2) := by decide +kernel
theorem dX3_cutSegment_90 : decode cX3_cutSegment 90 = .ok (.aload 4, 2) := by decide +kernel
theorem dX3_cutSegment_92 : decode cX3_cutSegment 92 = .ok (.getfield 84, 3) := by decide +kernel
theorem dX3_cutSegment_95 : decode cX3_cutSegment 95 = .ok (.iload_n 3, 1) := by decide +kernel
theorem dX3_cutSegment_96 : decode cX3_cutSegment 96 = .ok (.i2l, 1) := by decide +kernel
theorem dX3_cutSegment_97 : decode cX3_cutSegment 97 = .ok (.lmul, 1) := by decide +kernel
theorem dX3_cutSegment_98 : decode cX3_cutSegment 98 = .ok (.aload 4, 2) := by decide +kernel
theorem dX3_cutSegment_100 : decode cX3_cutSegment 100 = .ok (.getfield 80, 3) := by decide +kernel
theorem dX3_cutSegment_103 : decode cX3_cutSegment 103 = .ok (.lsub, 1) := by decide +kernel
theorem dX3_cutSegment_104 : decode cX3_cutSegment 104 = .ok (.lload 8, 2) := by decide +kernel
theorem dX3_cutSegment_106 : decode cX3_cutSegment 106 = .ok (.invokevirtual 53, 3) := by decide +kernel
theorem dX3_cutSegment_109 : decode cX3_cutSegment 109 = .ok (.invokevirtual 42, 3) := by decide +kernel
theorem dX3_cutSegment_112 : decode cX3_cutSegment 112 = .ok (.aload_n 0, 1) := by decide +kernel
theorem dX3_cutSegment_113 : decode cX3_cutSegment 113 = .ok (.iload 6, 2) := by decide +kernel
theorem dX3_cutSegment_115 : decode cX3_cutSegment 115 = .ok (.iconst 4, 1) := by decide +kernel
theorem dX3_cutSegment_116 : decode cX3_cutSegment 116 = .ok (.iload 10, 2) := by decide +kernel
theorem dX3_cutSegment_118 : decode cX3_cutSegment 118 = .ok (.iadd, 1) := by decide +kernel
theorem dX3_cutSegment_119 : decode cX3_cutSegment 119 = .ok (.aload 5, 2) := by decide +kernel
theorem dX3_cutSegment_121 : decode cX3_cutSegment 121 = .ok (.aload 4, 2) := by decide +kernel
theorem dX3_cutSegment_123 : decode cX3_cutSegment 123 = .ok (.getfield 87, 3) := by decide +kernel
theorem dX3_cutSegment_126 : decode cX3_cutSegment 126 = .ok (.iload_n 3, 1) := by decide +kernel
theorem dX3_cutSegment_127 : decode cX3_cutSegment 127 = .ok (.i2l, 1) := by decide +kernel
theorem dX3_cutSegment_128 : decode cX3_cutSegment 128 = .ok (.lmul, 1) := by decide +kernel
theorem dX3_cutSegment_129 : decode cX3_cutSegment 129 = .ok (.aload 4, 2) := by decide +kernel
theorem dX3_cutSegment_131 : decode cX3_cutSegment 131 = .ok (.getfield 80, 3) := by decide +kernel
theorem dX3_cutSegment_134 : decode cX3_cutSegment 134 = .ok (.lsub, 1) := by decide +kernel
theorem dX3_cutSegment_135 : decode cX3_cutSegment 135 = .ok (.lload 8, 2) := by decide +kernel
theorem dX3_cutSegment_137 : decode cX3_cutSegment 137 = .ok (.invokevirtual 53, 3) := by decide +kernel
theorem dX3_cutSegment_140 : decode cX3_cutSegment 140 = .ok (.invokevirtual 42, 3) := by decide +kernel
theorem dX3_cutSegment_143 : decode cX3_cutSegment 143 = .ok (.aload_n 0, 1) := by decide +kernel
theorem dX3_cutSegment_144 : decode cX3_cutSegment 144 = .ok (.iload_n 1, 1) := by decide +kernel
theorem dX3_cutSegment_145 : decode cX3_cutSegment 145 = .ok (.iconst 4, 1) := by decide +kernel
theorem dX3_cutSegment_146 : decode cX3_cutSegment 146 = .ok (.iload 10, 2) := by decide +kernel
theorem dX3_cutSegment_148 : decode cX3_cutSegment 148 = .ok (.iadd, 1) := by decide +kernel
theorem dX3_cutSegment_149 : decode cX3_cutSegment 149 = .ok (.iload_n 2, 1) := by decide +kernel
theorem dX3_cutSegment_150 : decode cX3_cutSegment 150 = .ok (.iload_n 3, 1) := by decide +kernel
theorem dX3_cutSegment_151 : decode cX3_cutSegment 151 = .ok (.aload 5, 2) := by decide +kernel
theorem dX3_cutSegment_153 : decode cX3_cutSegment 153 = .ok (.invokevirtual 90, 3) := by decide +kernel
theorem dX3_cutSegment_156 : decode cX3_cutSegment 156 = .ok (.aload_n 0, 1) := by decide +kernel
theorem dX3_cutSegment_157 : decode cX3_cutSegment 157 = .ok (.iload 7, 2) := by decide +kernel
theorem dX3_cutSegment_159 : decode cX3_cutSegment 159 = .ok (.iconst 2, 1) := by decide +kernel
theorem dX3_cutSegment_160 : decode cX3_cutSegment 160 = .ok (.iload 10, 2) := by decide +kernel
theorem dX3_cutSegment_162 : decode cX3_cutSegment 162 = .ok (.iadd, 1) := by decide +kernel
theorem dX3_cutSegment_163 : decode cX3_cutSegment 163 = .ok (.iload_n 3, 1) := by decide +kernel
theorem dX3_cutSegment_164 : decode cX3_cutSegment 164 = .ok (.iload_n 2, 1) := by decide +kernel
theorem dX3_cutSegment_165 : decode cX3_cutSegment 165 = .ok (.isub, 1) := by decide +kernel
theorem dX3_cutSegment_166 : decode cX3_cutSegment 166 = .ok (.iload_n 3, 1) := by decide +kernel
theorem dX3_cutSegment_167 : decode cX3_cutSegment 167 = .ok (.aload 5, 2) := by decide +kernel
theorem dX3_cutSegment_169 : decode cX3_cutSegment 169 = .ok (.invokevirtual 90, 3) := by decide +kernel
theorem dX3_cutSegment_172 : decode cX3_cutSegment 172 = .ok (.iinc 10 1, 3) := by decide +kernel
theorem dX3_cutSegment_175 : decode cX3_cutSegment 175 = .ok (.goto (-135), 3) := by decide +kernel
theorem dX3_cutSegment_178 : decode cX3_cutSegment 178 = .ok (.aload_n 0, 1) := by decide +kernel
theorem dX3_cutSegment_179 : decode cX3_cutSegment 179 = .ok (.iload 6, 2) := by decide +kernel
theorem dX3_cutSegment_181 : decode cX3_cutSegment 181 = .ok (.iload_n 2, 1) := by decide +kernel
theorem dX3_cutSegment_182 : decode cX3_cutSegment 182 = .ok (.iload_n 3, 1) := by decide +kernel
theorem dX3_cutSegment_183 : decode cX3_cutSegment 183 = .ok (.iload_n 2, 1) := by decide +kernel
theorem dX3_cutSegment_184 : decode cX3_cutSegment 184 = .ok (.isub, 1) := by decide +kernel
theorem dX3_cutSegment_185 : decode cX3_cutSegment 185 = .ok (.invokevirtual 94, 3) := by decide +kernel
theorem dX3_cutSegment_188 : decode cX3_cutSegment 188 = .ok (.aload_n 0, 1) := by decide +kernel
theorem dX3_cutSegment_189 : decode cX3_cutSegment 189 = .ok (.iload_n 1, 1) := by decide +kernel
theorem dX3_cutSegment_190 : decode cX3_cutSegment 190 = .ok (.iload_n 3, 1) := by decide +kernel
theorem dX3_cutSegment_191 : decode cX3_cutSegment 191 = .ok (.iload_n 2, 1) := by decide +kernel
theorem dX3_cutSegment_192 : decode cX3_cutSegment 192 = .ok (.invokevirtual 97, 3) := by decide +kernel
theorem dX3_cutSegment_195 : decode cX3_cutSegment 195 = .ok (.aload_n 0, 1) := by decide +kernel
theorem dX3_cutSegment_196 : decode cX3_cutSegment 196 = .ok (.iload 7, 2) := by decide +kernel
theorem dX3_cutSegment_198 : decode cX3_cutSegment 198 = .ok (.iload_n 3, 1) := by decide +kernel
theorem dX3_cutSegment_199 : decode cX3_cutSegment 199 = .ok (.iload_n 2, 1) := by decide +kernel
theorem dX3_cutSegment_200 : decode cX3_cutSegment 200 = .ok (.isub, 1) := by decide +kernel
theorem dX3_cutSegment_201 : decode cX3_cutSegment 201 = .ok (.iload_n 3, 1) := by decide +kernel
theorem dX3_cutSegment_202 : decode cX3_cutSegment 202 = .ok (.invokevirtual 97, 3) := by decide +kernel
theorem dX3_cutSegment_205 : decode cX3_cutSegment 205 = .ok (.return_, 1) := by decide +kernel
theorem dX3_scaleHandle_0 : decode cX3_scaleHandle 0 = .ok (.aload_n 0, 1) := by decide +kernel
theorem dX3_scaleHandle_1 : decode cX3_scaleHandle 1 = .ok (.iload_n 1, 1) := by decide +kernel
theorem dX3_scaleHandle_2 : decode cX3_scaleHandle 2 = .ok (.iload_n 2, 1) := by decide +kernel
theorem dX3_scaleHandle_3 : decode cX3_scaleHandle 3 = .ok (.aload 5, 2) := by decide +kernel
theorem dX3_scaleHandle_5 : decode cX3_scaleHandle 5 = .ok (.aload_n 0, 1) := by decide +kernel
theorem dX3_scaleHandle_6 : decode cX3_scaleHandle 6 = .ok (.iload_n 1, 1) := by decide +kernel
theorem dX3_scaleHandle_7 : decode cX3_scaleHandle 7 = .ok (.iload_n 2, 1) := by decide +kernel
theorem dX3_scaleHandle_8 : decode cX3_scaleHandle 8 = .ok (.invokevirtual 33, 3) := by decide +kernel
theorem dX3_scaleHandle_11 : decode cX3_scaleHandle 11 = .ok (.i2l, 1) := by decide +kernel
theorem dX3_scaleHandle_12 : decode cX3_scaleHandle 12 = .ok (.iload_n 3, 1) := by decide +kernel
theorem dX3_scaleHandle_13 : decode cX3_scaleHandle 13 = .ok (.i2l, 1) := by decide +kernel
theorem dX3_scaleHandle_14 : decode cX3_scaleHandle 14 = .ok (.lmul, 1) := by decide +kernel
theorem dX3_scaleHandle_15 : decode cX3_scaleHandle 15 = .ok (.iload 4, 2) := by decide +kernel
theorem dX3_scaleHandle_17 : decode cX3_scaleHandle 17 = .ok (.i2l, 1) := by decide +kernel
theorem dX3_scaleHandle_18 : decode cX3_scaleHandle 18 = .ok (.invokevirtual 53, 3) := by decide +kernel
theorem dX3_scaleHandle_21 : decode cX3_scaleHandle 21 = .ok (.invokevirtual 42, 3) := by decide +kernel
theorem dX3_scaleHandle_24 : decode cX3_scaleHandle 24 = .ok (.return_, 1) := by decide +kernel
theorem dX3_scaleRatio_0 : decode cX3_scaleRatio 0 = .ok (.aload_n 0, 1) := by decide +kernel
theorem dX3_scaleRatio_1 : decode cX3_scaleRatio 1 = .ok (.iload_n 1, 1) := by decide +kernel
theorem dX3_scaleRatio_2 : decode cX3_scaleRatio 2 = .ok (.invokevirtual 37, 3) := by decide +kernel
theorem dX3_scaleRatio_5 : decode cX3_scaleRatio 5 = .ok (.ifCond .eq 26, 3) := by decide +kernel
theorem dX3_scaleRatio_8 : decode cX3_scaleRatio 8 = .ok (.aload_n 0, 1) := by decide +kernel
theorem dX3_scaleRatio_9 : decode cX3_scaleRatio 9 = .ok (.iload_n 1, 1) := by decide +kernel
theorem dX3_scaleRatio_10 : decode cX3_scaleRatio 10 = .ok (.aload_n 0, 1) := by decide +kernel
theorem dX3_scaleRatio_11 : decode cX3_scaleRatio 11 = .ok (.iload_n 1, 1) := by decide +kernel
theorem dX3_scaleRatio_12 : decode cX3_scaleRatio 12 = .ok (.bipush 6, 2) := by decide +kernel
theorem dX3_scaleRatio_14 : decode cX3_scaleRatio 14 = .ok (.invokevirtual 33, 3) := by decide +kernel
theorem dX3_scaleRatio_17 : decode cX3_scaleRatio 17 = .ok (.iload_n 2, 1) := by decide +kernel
theorem dX3_scaleRatio_18 : decode cX3_scaleRatio 18 = .ok (.imul, 1) := by decide +kernel
theorem dX3_scaleRatio_19 : decode cX3_scaleRatio 19 = .ok (.aload_n 0, 1) := by decide +kernel
theorem dX3_scaleRatio_20 : decode cX3_scaleRatio 20 = .ok (.iload_n 1, 1) := by decide +kernel
theorem dX3_scaleRatio_21 : decode cX3_scaleRatio 21 = .ok (.bipush 7, 2) := by decide +kernel
theorem dX3_scaleRatio_23 : decode cX3_scaleRatio 23 = .ok (.invokevirtual 33, 3) := by decide +kernel
theorem dX3_scaleRatio_26 : decode cX3_scaleRatio 26 = .ok (.iload_n 3, 1) := by decide +kernel
theorem dX3_scaleRatio_27 : decode cX3_scaleRatio 27 = .ok (.imul, 1) := by decide +kernel
theorem dX3_scaleRatio_28 : decode cX3_scaleRatio 28 = .ok (.invokevirtual 94, 3) := by decide +kernel
theorem dX3_scaleRatio_31 : decode cX3_scaleRatio 31 = .ok (.return_, 1) := by decide +kernel
theorem dX3_openAt_0 : decode cX3_openAt 0 = .ok (.iconst 0, 1) := by decide +kernel
theorem dX3_openAt_1 : decode cX3_openAt 1 = .ok (.istore_n 2, 1) := by decide +kernel
theorem dX3_openAt_2 : decode cX3_openAt 2 = .ok (.iload_n 2, 1) := by decide +kernel
theorem dX3_openAt_3 : decode cX3_openAt 3 = .ok (.iload_n 1, 1) := by decide +kernel
theorem dX3_openAt_4 : decode cX3_openAt 4 = .ok (.if_icmp .ge 20, 3) := by decide +kernel
theorem dX3_openAt_7 : decode cX3_openAt 7 = .ok (.aload_n 0, 1) := by decide +kernel
theorem dX3_openAt_8 : decode cX3_openAt 8 = .ok (.aload_n 0, 1) := by decide +kernel
theorem dX3_openAt_9 : decode cX3_openAt 9 = .ok (.iconst 0, 1) := by decide +kernel
theorem dX3_openAt_10 : decode cX3_openAt 10 = .ok (.invokevirtual 63, 3) := by decide +kernel
theorem dX3_openAt_13 : decode cX3_openAt 13 = .ok (.aload_n 0, 1) := by decide +kernel
theorem dX3_openAt_14 : decode cX3_openAt 14 = .ok (.iconst 0, 1) := by decide +kernel
theorem dX3_openAt_15 : decode cX3_openAt 15 = .ok (.invokevirtual 100, 3) := by decide +kernel
theorem dX3_openAt_18 : decode cX3_openAt 18 = .ok (.iinc 2 1, 3) := by decide +kernel
theorem dX3_openAt_21 : decode cX3_openAt 21 = .ok (.goto (-19), 3) := by decide +kernel
theorem dX3_openAt_24 : decode cX3_openAt 24 = .ok (.aload_n 0, 1) := by decide +kernel
theorem dX3_openAt_25 : decode cX3_openAt 25 = .ok (.aload_n 0, 1) := by decide +kernel
theorem dX3_openAt_26 : decode cX3_openAt 26 = .ok (.iconst 0, 1) := by decide +kernel
theorem dX3_openAt_27 : decode cX3_openAt 27 = .ok (.invokevirtual 63, 3) := by decide +kernel
theorem dX3_openAt_30 : decode cX3_openAt 30 = .ok (.aload_n 0, 1) := by decide +kernel
theorem dX3_openAt_31 : decode cX3_openAt 31 = .ok (.iconst 0, 1) := by decide +kernel
theorem dX3_openAt_32 : decode cX3_openAt 32 = .ok (.putfield 25, 3) := by decide +kernel
theorem dX3_openAt_35 : decode cX3_openAt 35 = .ok (.return_, 1) := by decide +kernel
theorem dX3_moveTail_0 : decode cX3_moveTail 0 = .ok (.iload_n 1, 1) := by decide +kernel
theorem dX3_moveTail_1 : decode cX3_moveTail 1 = .ok (.istore_n 3, 1) := by decide +kernel
theorem dX3_moveTail_2 : decode cX3_moveTail 2 = .ok (.iload_n 3, 1) := by decide +kernel
theorem dX3_moveTail_3 : decode cX3_moveTail 3 = .ok (.aload_n 0, 1) := by decide +kernel
theorem dX3_moveTail_4 : decode cX3_moveTail 4 = .ok (.getfield 21, 3) := by decide +kernel
theorem dX3_moveTail_7 : decode cX3_moveTail 7 = .ok (.if_icmp .ge 15, 3) := by decide +kernel
theorem dX3_moveTail_10 : decode cX3_moveTail 10 = .ok (.aload_n 2, 1) := by decide +kernel
theorem dX3_moveTail_11 : decode cX3_moveTail 11 = .ok (.aload_n 0, 1) := by decide +kernel
theorem dX3_moveTail_12 : decode cX3_moveTail 12 = .ok (.iload_n 3, 1) := by decide +kernel
theorem dX3_moveTail_13 : decode cX3_moveTail 13 = .ok (.invokevirtual 63, 3) := by decide +kernel
theorem dX3_moveTail_16 : decode cX3_moveTail 16 = .ok (.iinc 3 1, 3) := by decide +kernel
theorem dX3_moveTail_19 : decode cX3_moveTail 19 = .ok (.goto (-17), 3) := by decide +kernel
theorem dX3_moveTail_22 : decode cX3_moveTail 22 = .ok (.aload_n 0, 1) := by decide +kernel
theorem dX3_moveTail_23 : decode cX3_moveTail 23 = .ok (.iload_n 1, 1) := by decide +kernel
theorem dX3_moveTail_24 : decode cX3_moveTail 24 = .ok (.iconst 1, 1) := by decide +kernel
theorem dX3_moveTail_25 : decode cX3_moveTail 25 = .ok (.iadd, 1) := by decide +kernel
theorem dX3_moveTail_26 : decode cX3_moveTail 26 = .ok (.putfield 21, 3) := by decide +kernel
theorem dX3_moveTail_29 : decode cX3_moveTail 29 = .ok (.return_, 1) := by decide +kernel
theorem dX3_endsWhereStarts_0 : decode cX3_endsWhereStarts 0 = .ok (.aload_n 0, 1) := by decide +kernel
theorem dX3_endsWhereStarts_1 : decode cX3_endsWhereStarts 1 = .ok (.aload_n 0, 1) := by decide +kernel
theorem dX3_endsWhereStarts_2 : decode cX3_endsWhereStarts 2 = .ok (.getfield 21, 3) := by decide +kernel
theorem dX3_endsWhereStarts_5 : decode cX3_endsWhereStarts 5 = .ok (.iconst 1, 1) := by decide +kernel
theorem dX3_endsWhereStarts_6 : decode cX3_endsWhereStarts 6 = .ok (.isub, 1) := by decide +kernel
theorem dX3_endsWhereStarts_7 : decode cX3_endsWhereStarts 7 = .ok (.iconst 0, 1) := by decide +kernel
theorem dX3_endsWhereStarts_8 : decode cX3_endsWhereStarts 8 = .ok (.invokevirtual 33, 3) := by decide +kernel
theorem dX3_endsWhereStarts_11 : decode cX3_endsWhereStarts 11 = .ok (.aload_n 1, 1) := by decide +kernel
theorem dX3_endsWhereStarts_12 : decode cX3_endsWhereStarts 12 = .ok (.iconst 0, 1) := by decide +kernel
theorem dX3_endsWhereStarts_13 : decode cX3_endsWhereStarts 13 = .ok (.iconst 0, 1) := by decide +kernel
theorem dX3_endsWhereStarts_14 : decode cX3_endsWhereStarts 14 = .ok (.invokevirtual 33, 3) := by decide +kernel
theorem dX3_endsWhereStarts_17 : decode cX3_endsWhereStarts 17 = .ok (.if_icmp .ne 27, 3) := by decide +kernel
theorem dX3_endsWhereStarts_20 : decode cX3_endsWhereStarts 20 = .ok (.aload_n 0, 1) := by decide +kernel
theorem dX3_endsWhereStarts_21 : decode cX3_endsWhereStarts 21 = .ok (.aload_n 0, 1) := by decide +kernel
theorem dX3_endsWhereStarts_22 : decode cX3_endsWhereStarts 22 = .ok (.getfield 21, 3) := by decide +kernel
theorem dX3_endsWhereStarts_25 : decode cX3_endsWhereStarts 25 = .ok (.iconst 1, 1) := by decide +kernel
theorem dX3_endsWhereStarts_26 : decode cX3_endsWhereStarts 26 = .ok (.isub, 1) := by decide +kernel
theorem dX3_endsWhereStarts_27 : decode cX3_endsWhereStarts 27 = .ok (.iconst 1, 1) := by decide +kernel
theorem dX3_endsWhereStarts_28 : decode cX3_endsWhereStarts 28 = .ok (.invokevirtual 33, 3) := by decide +kernel
theorem dX3_endsWhereStarts_31 : decode cX3_endsWhereStarts 31 = .ok (.aload_n 1, 1) := by decide +kernel
theorem dX3_endsWhereStarts_32 : decode cX3_endsWhereStarts 32 = .ok (.iconst 0, 1) := by decide +kernel
theorem dX3_endsWhereStarts_33 : decode cX3_endsWhereStarts 33 = .ok (.iconst 1, 1) := by decide +kernel
theorem dX3_endsWhereStarts_34 : decode cX3_endsWhereStarts 34 = .ok (.invokevirtual 33, 3) := by decide +kernel
theorem dX3_endsWhereStarts_37 : decode cX3_endsWhereStarts 37 = .ok (.if_icmp .ne 7, 3) := by decide +kernel
theorem dX3_endsWhereStarts_40 : decode cX3_endsWhereStarts 40 = .ok (.iconst 1, 1) := by decide +kernel
theorem dX3_endsWhereStarts_41 : decode cX3_endsWhereStarts 41 = .ok (.goto 4, 3) := by decide +kernel
theorem dX3_endsWhereStarts_44 : decode cX3_endsWhereStarts 44 = .ok (.iconst 0, 1) := by decide +kernel
theorem dX3_endsWhereStarts_45 : decode cX3_endsWhereStarts 45 = .ok (.ireturn, 1) := by decide +kernel
theorem dX3_mergeStart_0 : decode cX3_mergeStart 0 = .ok (.aload_n 1, 1) := by decide +kernel
theorem dX3_mergeStart_1 : decode cX3_mergeStart 1 = .ok (.getfield 21, 3) := by decide +kernel
theorem dX3_mergeStart_4 : decode cX3_mergeStart 4 = .ok (.iconst 1, 1) := by decide +kernel
theorem dX3_mergeStart_5 : decode cX3_mergeStart 5 = .ok (.isub, 1) := by decide +kernel
theorem dX3_mergeStart_6 : decode cX3_mergeStart 6 = .ok (.istore_n 2, 1) := by decide +kernel
theorem dX3_mergeStart_7 : decode cX3_mergeStart 7 = .ok (.aload_n 0, 1) := by decide +kernel
theorem dX3_mergeStart_8 : decode cX3_mergeStart 8 = .ok (.iconst 0, 1) := by decide +kernel
theorem dX3_mergeStart_9 : decode cX3_mergeStart 9 = .ok (.iconst 2, 1) := by decide +kernel
theorem dX3_mergeStart_10 : decode cX3_mergeStart 10 = .ok (.aload_n 1, 1) := by decide +kernel
theorem dX3_mergeStart_11 : decode cX3_mergeStart 11 = .ok (.iload_n 2, 1) := by decide +kernel
theorem dX3_mergeStart_12 : decode cX3_mergeStart 12 = .ok (.iconst 2, 1) := by decide +kernel
theorem dX3_mergeStart_13 : decode cX3_mergeStart 13 = .ok (.invokevirtual 33, 3) := by decide +kernel
theorem dX3_mergeStart_16 : decode cX3_mergeStart 16 = .ok (.invokevirtual 42, 3) := by decide +kernel
theorem dX3_mergeStart_19 : decode cX3_mergeStart 19 = .ok (.aload_n 0, 1) := by decide +kernel
theorem dX3_mergeStart_20 : decode cX3_mergeStart 20 = .ok (.iconst 0, 1) := by decide +kernel
theorem dX3_mergeStart_21 : decode cX3_mergeStart 21 = .ok (.iconst 3, 1) := by decide +kernel
theorem dX3_mergeStart_22 : decode cX3_mergeStart 22 = .ok (.aload_n 1, 1) := by decide +kernel
theorem dX3_mergeStart_23 : decode cX3_mergeStart 23 = .ok (.iload_n 2, 1) := by decide +kernel
theorem dX3_mergeStart_24 : decode cX3_mergeStart 24 = .ok (.iconst 3, 1) := by decide +kernel
theorem dX3_mergeStart_25 : decode cX3_mergeStart 25 = .ok (.invokevirtual 33, 3) := by decide +kernel
theorem dX3_mergeStart_28 : decode cX3_mergeStart 28 = .ok (.invokevirtual 42, 3) := by decide +kernel
theorem dX3_mergeStart_31 : decode cX3_mergeStart 31 = .ok (.aload_n 0, 1) := by decide +kernel
theorem dX3_mergeStart_32 : decode cX3_mergeStart 32 = .ok (.iconst 0, 1) := by decide +kernel
theorem dX3_mergeStart_33 : decode cX3_mergeStart 33 = .ok (.bipush 6, 2) := by decide +kernel
theorem dX3_mergeStart_35 : decode cX3_mergeStart 35 = .ok (.invokevirtual 33, 3) := by decide +kernel
theorem dX3_mergeStart_38 : decode cX3_mergeStart 38 = .ok (.aload_n 1, 1) := by decide +kernel
theorem dX3_mergeStart_39 : decode cX3_mergeStart 39 = .ok (.iload_n 2, 1) := by decide +kernel
theorem dX3_mergeStart_40 : decode cX3_mergeStart 40 = .ok (.bipush 6, 2) := by decide +kernel
theorem dX3_mergeStart_42 : decode cX3_mergeStart 42 = .ok (.invokevirtual 33, 3) := by decide +kernel
theorem dX3_mergeStart_45 : decode cX3_mergeStart 45 = .ok (.if_icmp .ne 24, 3) := by decide +kernel
theorem dX3_mergeStart_48 : decode cX3_mergeStart 48 = .ok (.aload_n 0, 1) := by decide +kernel
theorem dX3_mergeStart_49 : decode cX3_mergeStart 49 = .ok (.iconst 0, 1) := by decide +kernel
theorem dX3_mergeStart_50 : decode cX3_mergeStart 50 = .ok (.bipush 7, 2) := by decide +kernel
theorem dX3_mergeStart_52 : decode cX3_mergeStart 52 = .ok (.invokevirtual 33, 3) := by decide +kernel
theorem dX3_mergeStart_55 : decode cX3_mergeStart 55 = .ok (.aload_n 1, 1) := by decide +kernel
theorem dX3_mergeStart_56 : decode cX3_mergeStart 56 = .ok (.iload_n 2, 1) := by decide +kernel
theorem dX3_mergeStart_57 : decode cX3_mergeStart 57 = .ok (.bipush 7, 2) := by decide +kernel
theorem dX3_mergeStart_59 : decode cX3_mergeStart 59 = .ok (.invokevirtual 33, 3) := by decide +kernel
theorem dX3_mergeStart_62 : decode cX3_mergeStart 62 = .ok (.if_icmp .ne 7, 3) := by decide +kernel
theorem dX3_mergeStart_65 : decode cX3_mergeStart 65 = .ok (.iconst 1, 1) := by decide +kernel
theorem dX3_mergeStart_66 : decode cX3_mergeStart 66 = .ok (.goto 4, 3) := by decide +kernel
theorem dX3_mergeStart_69 : decode cX3_mergeStart 69 = .ok (.iconst 0, 1) := by decide +kernel
theorem dX3_mergeStart_70 : decode cX3_mergeStart 70 = .ok (.istore_n 3, 1) := by decide +kernel
theorem dX3_mergeStart_71 : decode cX3_mergeStart 71 = .ok (.iload_n 3, 1) := by decide +kernel
theorem dX3_mergeStart_72 : decode cX3_mergeStart 72 = .ok (.ifCond .eq 11, 3) := by decide +kernel
theorem dX3_mergeStart_75 : decode cX3_mergeStart 75 = .ok (.aload_n 0, 1) := by decide +kernel
theorem dX3_mergeStart_76 : decode cX3_mergeStart 76 = .ok (.iconst 0, 1) := by decide +kernel
theorem dX3_mergeStart_77 : decode cX3_mergeStart 77 = .ok (.invokevirtual 103, 3) := by decide +kernel
theorem dX3_mergeStart_80 : decode cX3_mergeStart 80 = .ok (.ifCond .ne 8, 3) := by decide +kernel
theorem dX3_mergeStart_83 : decode cX3_mergeStart 83 = .ok (.aload_n 0, 1) := by decide +kernel
theorem dX3_mergeStart_84 : decode cX3_mergeStart 84 = .ok (.iconst 0, 1) := by decide +kernel
theorem dX3_mergeStart_85 : decode cX3_mergeStart 85 = .ok (.invokevirtual 49, 3) := by decide +kernel
theorem dX3_mergeStart_88 : decode cX3_mergeStart 88 = .ok (.aload_n 1, 1) := by decide +kernel
theorem dX3_mergeStart_89 : decode cX3_mergeStart 89 = .ok (.iload_n 2, 1) := by decide +kernel
theorem dX3_mergeStart_90 : decode cX3_mergeStart 90 = .ok (.invokevirtual 100, 3) := by decide +kernel
theorem dX3_mergeStart_93 : decode cX3_mergeStart 93 = .ok (.return_, 1) := by decide +kernel
theorem dX3_turnRound_0 : decode cX3_turnRound 0 = .ok (.iconst 0, 1) := by decide +kernel
theorem dX3_turnRound_1 : decode cX3_turnRound 1 = .ok (.istore_n 1, 1) := by decide +kernel
theorem dX3_turnRound_2 : decode cX3_turnRound 2 = .ok (.iload_n 1, 1) := by decide +kernel
theorem dX3_turnRound_3 : decode cX3_turnRound 3 = .ok (.aload_n 0, 1) := by decide +kernel
theorem dX3_turnRound_4 : decode cX3_turnRound 4 = .ok (.getfield 21, 3) := by decide +kernel
theorem dX3_turnRound_7 : decode cX3_turnRound 7 = .ok (.iconst 1, 1) := by decide +kernel
theorem dX3_turnRound_8 : decode cX3_turnRound 8 = .ok (.isub, 1) := by decide +kernel
theorem dX3_turnRound_9 : decode cX3_turnRound 9 = .ok (.iload_n 1, 1) := by decide +kernel
theorem dX3_turnRound_10 : decode cX3_turnRound 10 = .ok (.isub, 1) := by decide +kernel
theorem dX3_turnRound_11 : decode cX3_turnRound 11 = .ok (.if_icmp .ge 38, 3) := by decide +kernel
theorem dX3_turnRound_14 : decode cX3_turnRound 14 = .ok (.iconst 0, 1) := by decide +kernel
theorem dX3_turnRound_15 : decode cX3_turnRound 15 = .ok (.istore_n 2, 1) := by decide +kernel
theorem dX3_turnRound_16 : decode cX3_turnRound 16 = .ok (.iload_n 2, 1) := by decide +kernel
theorem dX3_turnRound_17 : decode cX3_turnRound 17 = .ok (.bipush 8, 2) := by decide +kernel
theorem dX3_turnRound_19 : decode cX3_turnRound 19 = .ok (.if_icmp .ge 24, 3) := by decide +kernel
theorem dX3_turnRound_22 : decode cX3_turnRound 22 = .ok (.aload_n 0, 1) := by decide +kernel
theorem dX3_turnRound_23 : decode cX3_turnRound 23 = .ok (.iload_n 1, 1) := by decide +kernel
theorem dX3_turnRound_24 : decode cX3_turnRound 24 = .ok (.iload_n 2, 1) := by decide +kernel
theorem dX3_turnRound_25 : decode cX3_turnRound 25 = .ok (.aload_n 0, 1) := by decide +kernel
theorem dX3_turnRound_26 : decode cX3_turnRound 26 = .ok (.getfield 21, 3) := by decide +kernel
theorem dX3_turnRound_29 : decode cX3_turnRound 29 = .ok (.iconst 1, 1) := by decide +kernel
theorem dX3_turnRound_30 : decode cX3_turnRound 30 = .ok (.isub, 1) := by decide +kernel
theorem dX3_turnRound_31 : decode cX3_turnRound 31 = .ok (.iload_n 1, 1) := by decide +kernel
theorem dX3_turnRound_32 : decode cX3_turnRound 32 = .ok (.isub, 1) := by decide +kernel
theorem dX3_turnRound_33 : decode cX3_turnRound 33 = .ok (.iload_n 2, 1) := by decide +kernel
theorem dX3_turnRound_34 : decode cX3_turnRound 34 = .ok (.invokevirtual 106, 3) := by decide +kernel
theorem dX3_turnRound_37 : decode cX3_turnRound 37 = .ok (.iinc 2 1, 3) := by decide +kernel
theorem dX3_turnRound_40 : decode cX3_turnRound 40 = .ok (.goto (-24), 3) := by decide +kernel
theorem dX3_turnRound_43 : decode cX3_turnRound 43 = .ok (.iinc 1 1, 3) := by decide +kernel
theorem dX3_turnRound_46 : decode cX3_turnRound 46 = .ok (.goto (-44), 3) := by decide +kernel
theorem dX3_turnRound_49 : decode cX3_turnRound 49 = .ok (.iconst 0, 1) := by decide +kernel
theorem dX3_turnRound_50 : decode cX3_turnRound 50 = .ok (.istore_n 1, 1) := by decide +kernel
theorem dX3_turnRound_51 : decode cX3_turnRound 51 = .ok (.iload_n 1, 1) := by decide +kernel
theorem dX3_turnRound_52 : decode cX3_turnRound 52 = .ok (.aload_n 0, 1) := by decide +kernel
theorem dX3_turnRound_53 : decode cX3_turnRound 53 = .ok (.getfield 21, 3) := by decide +kernel
theorem dX3_turnRound_56 : decode cX3_turnRound 56 = .ok (.if_icmp .ge 35, 3) := by decide +kernel
theorem dX3_turnRound_59 : decode cX3_turnRound 59 = .ok (.aload_n 0, 1) := by decide +kernel
theorem dX3_turnRound_60 : decode cX3_turnRound 60 = .ok (.iload_n 1, 1) := by decide +kernel
theorem dX3_turnRound_61 : decode cX3_turnRound 61 = .ok (.iconst 2, 1) := by decide +kernel
theorem dX3_turnRound_62 : decode cX3_turnRound 62 = .ok (.iload_n 1, 1) := by decide +kernel
theorem dX3_turnRound_63 : decode cX3_turnRound 63 = .ok (.iconst 4, 1) := by decide +kernel
theorem dX3_turnRound_64 : decode cX3_turnRound 64 = .ok (.invokevirtual 106, 3) := by decide +kernel
theorem dX3_turnRound_67 : decode cX3_turnRound 67 = .ok (.aload_n 0, 1) := by decide +kernel
theorem dX3_turnRound_68 : decode cX3_turnRound 68 = .ok (.iload_n 1, 1) := by decide +kernel
theorem dX3_turnRound_69 : decode cX3_turnRound 69 = .ok (.iconst 3, 1) := by decide +kernel
theorem dX3_turnRound_70 : decode cX3_turnRound 70 = .ok (.iload_n 1, 1) := by decide +kernel
theorem dX3_turnRound_71 : decode cX3_turnRound 71 = .ok (.iconst 5, 1) := by decide +kernel
theorem dX3_turnRound_72 : decode cX3_turnRound 72 = .ok (.invokevirtual 106, 3) := by decide +kernel
theorem dX3_turnRound_75 : decode cX3_turnRound 75 = .ok (.aload_n 0, 1) := by decide +kernel
theorem dX3_turnRound_76 : decode cX3_turnRound 76 = .ok (.iload_n 1, 1) := by decide +kernel
theorem dX3_turnRound_77 : decode cX3_turnRound 77 = .ok (.bipush 6, 2) := by decide +kernel
theorem dX3_turnRound_79 : decode cX3_turnRound 79 = .ok (.iload_n 1, 1) := by decide +kernel
theorem dX3_turnRound_80 : decode cX3_turnRound 80 = .ok (.bipush 7, 2) := by decide +kernel
theorem dX3_turnRound_82 : decode cX3_turnRound 82 = .ok (.invokevirtual 106, 3) := by decide +kernel
theorem dX3_turnRound_85 : decode cX3_turnRound 85 = .ok (.iinc 1 1, 3) := by decide +kernel
theorem dX3_turnRound_88 : decode cX3_turnRound 88 = .ok (.goto (-37), 3) := by decide +kernel
theorem dX3_turnRound_91 : decode cX3_turnRound 91 = .ok (.return_, 1) := by decide +kernel
theorem dX3_exchange_0 : decode cX3_exchange 0 = .ok (.aload_n 0, 1) := by decide +kernel
theorem dX3_exchange_1 : decode cX3_exchange 1 = .ok (.iload_n 1, 1) := by decide +kernel
theorem dX3_exchange_2 : decode cX3_exchange 2 = .ok (.iload_n 2, 1) := by decide +kernel
theorem dX3_exchange_3 : decode cX3_exchange 3 = .ok (.invokevirtual 33, 3) := by decide +kernel
theorem dX3_exchange_6 : decode cX3_exchange 6 = .ok (.istore 5, 2) := by decide +kernel
theorem dX3_exchange_8 : decode cX3_exchange 8 = .ok (.aload_n 0, 1) := by decide +kernel
theorem dX3_exchange_9 : decode cX3_exchange 9 = .ok (.iload_n 1, 1) := by decide +kernel
theorem dX3_exchange_10 : decode cX3_exchange 10 = .ok (.iload_n 2, 1) := by decide +kernel
theorem dX3_exchange_11 : decode cX3_exchange 11 = .ok (.aload_n 0, 1) := by decide +kernel
theorem dX3_exchange_12 : decode cX3_exchange 12 = .ok (.iload_n 3, 1) := by decide +kernel
theorem dX3_exchange_13 : decode cX3_exchange 13 = .ok (.iload 4, 2) := by decide +kernel
theorem dX3_exchange_15 : decode cX3_exchange 15 = .ok (.invokevirtual 33, 3) := by decide +kernel
theorem dX3_exchange_18 : decode cX3_exchange 18 = .ok (.invokevirtual 42, 3) := by decide +kernel
theorem dX3_exchange_21 : decode cX3_exchange 21 = .ok (.aload_n 0, 1) := by decide +kernel
theorem dX3_exchange_22 : decode cX3_exchange 22 = .ok (.iload_n 3, 1) := by decide +kernel
theorem dX3_exchange_23 : decode cX3_exchange 23 = .ok (.iload 4, 2) := by decide +kernel
theorem dX3_exchange_25 : decode cX3_exchange 25 = .ok (.iload 5, 2) := by decide +kernel
theorem dX3_exchange_27 : decode cX3_exchange 27 = .ok (.invokevirtual 42, 3) := by decide +kernel
theorem dX3_exchange_30 : decode cX3_exchange 30 = .ok (.return_, 1) := by decide +kernel
theorem dX3_mapNode_0 : decode cX3_mapNode 0 = .ok (.iconst 0, 1) := by decide +kernel
theorem dX3_mapNode_1 : decode cX3_mapNode 1 = .ok (.istore 12, 2) := by decide +kernel
theorem dX3_mapNode_3 : decode cX3_mapNode 3 = .ok (.iload 12, 2) := by decide +kernel
theorem dX3_mapNode_5 : decode cX3_mapNode 5 = .ok (.bipush 6, 2) := by decide +kernel
theorem dX3_mapNode_7 : decode cX3_mapNode 7 = .ok (.if_icmp .ge 86, 3) := by decide +kernel
theorem dX3_mapNode_10 : decode cX3_mapNode 10 = .ok (.aload_n 0, 1) := by decide +kernel
theorem dX3_mapNode_11 : decode cX3_mapNode 11 = .ok (.iload_n 1, 1) := by decide +kernel
theorem dX3_mapNode_12 : decode cX3_mapNode 12 = .ok (.iload 12, 2) := by decide +kernel
theorem dX3_mapNode_14 : decode cX3_mapNode 14 = .ok (.invokevirtual 33, 3) := by decide +kernel
theorem dX3_mapNode_17 : decode cX3_mapNode 17 = .ok (.istore 13, 2) := by decide +kernel
theorem dX3_mapNode_19 : decode cX3_mapNode 19 = .ok (.aload_n 0, 1) := by decide +kernel
theorem dX3_mapNode_20 : decode cX3_mapNode 20 = .ok (.iload_n 1, 1) := by decide +kernel
theorem dX3_mapNode_21 : decode cX3_mapNode 21 = .ok (.iload 12, 2) := by decide +kernel
theorem dX3_mapNode_23 : decode cX3_mapNode 23 = .ok (.iconst 1, 1) := by decide +kernel
theorem dX3_mapNode_24 : decode cX3_mapNode 24 = .ok (.iadd, 1) := by decide +kernel
theorem dX3_mapNode_25 : decode cX3_mapNode 25 = .ok (.invokevirtual 33, 3) := by decide +kernel
theorem dX3_mapNode_28 : decode cX3_mapNode 28 = .ok (.istore 14, 2) := by decide +kernel
theorem dX3_mapNode_30 : decode cX3_mapNode 30 = .ok (.aload_n 0, 1) := by decide +kernel
theorem dX3_mapNode_31 : decode cX3_mapNode 31 = .ok (.iload_n 1, 1) := by decide +kernel
theorem dX3_mapNode_32 : decode cX3_mapNode 32 = .ok (.iload 12, 2) := by decide +kernel
theorem dX3_mapNode_34 : decode cX3_mapNode 34 = .ok (.aload 11, 2) := by decide +kernel
theorem dX3_mapNode_36 : decode cX3_mapNode 36 = .ok (.lload_n 2, 1) := by decide +kernel
theorem dX3_mapNode_37 : decode cX3_mapNode 37 = .ok (.iload 13, 2) := by decide +kernel
theorem dX3_mapNode_39 : decode cX3_mapNode 39 = .ok (.i2l, 1) := by decide +kernel
theorem dX3_mapNode_40 : decode cX3_mapNode 40 = .ok (.lmul, 1) := by decide +kernel
theorem dX3_mapNode_41 : decode cX3_mapNode 41 = .ok (.lload 4, 2) := by decide +kernel
theorem dX3_mapNode_43 : decode cX3_mapNode 43 = .ok (.iload 14, 2) := by decide +kernel
theorem dX3_mapNode_45 : decode cX3_mapNode 45 = .ok (.i2l, 1) := by decide +kernel
theorem dX3_mapNode_46 : decode cX3_mapNode 46 = .ok (.lmul, 1) := by decide +kernel
theorem dX3_mapNode_47 : decode cX3_mapNode 47 = .ok (.ladd, 1) := by decide +kernel
theorem dX3_mapNode_48 : decode cX3_mapNode 48 = .ok (.iload 10, 2) := by decide +kernel
theorem dX3_mapNode_50 : decode cX3_mapNode 50 = .ok (.i2l, 1) := by decide +kernel
theorem dX3_mapNode_51 : decode cX3_mapNode 51 = .ok (.invokevirtual 53, 3) := by decide +kernel
theorem dX3_mapNode_54 : decode cX3_mapNode 54 = .ok (.invokevirtual 42, 3) := by decide +kernel
theorem dX3_mapNode_57 : decode cX3_mapNode 57 = .ok (.aload_n 0, 1) := by decide +kernel
theorem dX3_mapNode_58 : decode cX3_mapNode 58 = .ok (.iload_n 1, 1) := by decide +kernel
theorem dX3_mapNode_59 : decode cX3_mapNode 59 = .ok (.iload 12, 2) := by decide +kernel
theorem dX3_mapNode_61 : decode cX3_mapNode 61 = .ok (.iconst 1, 1) := by decide +kernel
theorem dX3_mapNode_62 : decode cX3_mapNode 62 = .ok (.iadd, 1) := by decide +kernel
theorem dX3_mapNode_63 : decode cX3_mapNode 63 = .ok (.aload 11, 2) := by decide +kernel
theorem dX3_mapNode_65 : decode cX3_mapNode 65 = .ok (.lload 6, 2) := by decide +kernel
theorem dX3_mapNode_67 : decode cX3_mapNode 67 = .ok (.iload 13, 2) := by decide +kernel
theorem dX3_mapNode_69 : decode cX3_mapNode 69 = .ok (.i2l, 1) := by decide +kernel
theorem dX3_mapNode_70 : decode cX3_mapNode 70 = .ok (.lmul, 1) := by decide +kernel
theorem dX3_mapNode_71 : decode cX3_mapNode 71 = .ok (.lload 8, 2) := by decide +kernel
theorem dX3_mapNode_73 : decode cX3_mapNode 73 = .ok (.iload 14, 2) := by decide +kernel
theorem dX3_mapNode_75 : decode cX3_mapNode 75 = .ok (.i2l, 1) := by decide +kernel
theorem dX3_mapNode_76 : decode cX3_mapNode 76 = .ok (.lmul, 1) := by decide +kernel
theorem dX3_mapNode_77 : decode cX3_mapNode 77 = .ok (.ladd, 1) := by decide +kernel
theorem dX3_mapNode_78 : decode cX3_mapNode 78 = .ok (.iload 10, 2) := by decide +kernel
theorem dX3_mapNode_80 : decode cX3_mapNode 80 = .ok (.i2l, 1) := by decide +kernel
theorem dX3_mapNode_81 : decode cX3_mapNode 81 = .ok (.invokevirtual 53, 3) := by decide +kernel
theorem dX3_mapNode_84 : decode cX3_mapNode 84 = .ok (.invokevirtual 42, 3) := by decide +kernel
theorem dX3_mapNode_87 : decode cX3_mapNode 87 = .ok (.iinc 12 2, 3) := by decide +kernel
theorem dX3_mapNode_90 : decode cX3_mapNode 90 = .ok (.goto (-87), 3) := by decide +kernel
theorem dX3_mapNode_93 : decode cX3_mapNode 93 = .ok (.return_, 1) := by decide +kernel
theorem dX3_control_0 : decode cX3_control 0 = .ok (.iload_n 2, 1) := by decide +kernel
theorem dX3_control_1 : decode cX3_control 1 = .ok (.tableswitch 80 0 2 #[27, 36, 54], 27) := by decide +kernel
theorem dX3_control_28 : decode cX3_control 28 = .ok (.aload_n 0, 1) := by decide +kernel
theorem dX3_control_29 : decode cX3_control 29 = .ok (.iload_n 1, 1) := by decide +kernel
theorem dX3_control_30 : decode cX3_control 30 = .ok (.iconst 0, 1) := by decide +kernel
theorem dX3_control_31 : decode cX3_control 31 = .ok (.iload_n 3, 1) := by decide +kernel
theorem dX3_control_32 : decode cX3_control 32 = .ok (.iadd, 1) := by decide +kernel
theorem dX3_control_33 : decode cX3_control 33 = .ok (.invokevirtual 33, 3) := by decide +kernel
theorem dX3_control_36 : decode cX3_control 36 = .ok (.ireturn, 1) := by decide +kernel
theorem dX3_control_37 : decode cX3_control 37 = .ok (.aload_n 0, 1) := by decide +kernel
theorem dX3_control_38 : decode cX3_control 38 = .ok (.iload_n 1, 1) := by decide +kernel
theorem dX3_control_39 : decode cX3_control 39 = .ok (.iconst 0, 1) := by decide +kernel
theorem dX3_control_40 : decode cX3_control 40 = .ok (.iload_n 3, 1) := by decide +kernel
theorem dX3_control_41 : decode cX3_control 41 = .ok (.iadd, 1) := by decide +kernel
theorem dX3_control_42 : decode cX3_control 42 = .ok (.invokevirtual 33, 3) := by decide +kernel
theorem dX3_control_45 : decode cX3_control 45 = .ok (.aload_n 0, 1) := by decide +kernel
theorem dX3_control_46 : decode cX3_control 46 = .ok (.iload_n 1, 1) := by decide +kernel
theorem dX3_control_47 : decode cX3_control 47 = .ok (.iconst 4, 1) := by decide +kernel
theorem dX3_control_48 : decode cX3_control 48 = .ok (.iload_n 3, 1) := by decide +kernel
theorem dX3_control_49 : decode cX3_control 49 = .ok (.iadd, 1) := by decide +kernel
theorem dX3_control_50 : decode cX3_control 50 = .ok (.invokevirtual 33, 3) := by decide +kernel
theorem dX3_control_53 : decode cX3_control 53 = .ok (.iadd, 1) := by decide +kernel
theorem dX3_control_54 : decode cX3_control 54 = .ok (.ireturn, 1) := by decide +kernel
theorem dX3_control_55 : decode cX3_control 55 = .ok (.aload_n 0, 1) := by decide +kernel
theorem dX3_control_56 : decode cX3_control 56 = .ok (.aload_n 0, 1) := by decide +kernel
theorem dX3_control_57 : decode cX3_control 57 = .ok (.iload_n 1, 1) := by decide +kernel
theorem dX3_control_58 : decode cX3_control 58 = .ok (.invokevirtual 67, 3) := by decide +kernel
theorem dX3_control_61 : decode cX3_control 61 = .ok (.iconst 0, 1) := by decide +kernel
theorem dX3_control_62 : decode cX3_control 62 = .ok (.iload_n 3, 1) := by decide +kernel
theorem dX3_control_63 : decode cX3_control 63 = .ok (.iadd, 1) := by decide +kernel
theorem dX3_control_64 : decode cX3_control 64 = .ok (.invokevirtual 33, 3) := by decide +kernel
theorem dX3_control_67 : decode cX3_control 67 = .ok (.aload_n 0, 1) := by decide +kernel
theorem dX3_control_68 : decode cX3_control 68 = .ok (.aload_n 0, 1) := by decide +kernel
theorem dX3_control_69 : decode cX3_control 69 = .ok (.iload_n 1, 1) := by decide +kernel
theorem dX3_control_70 : decode cX3_control 70 = .ok (.invokevirtual 67, 3) := by decide +kernel
theorem dX3_control_73 : decode cX3_control 73 = .ok (.iconst 2, 1) := by decide +kernel
theorem dX3_control_74 : decode cX3_control 74 = .ok (.iload_n 3, 1) := by decide +kernel
theorem dX3_control_75 : decode cX3_control 75 = .ok (.iadd, 1) := by decide +kernel
theorem dX3_control_76 : decode cX3_control 76 = .ok (.invokevirtual 33, 3) := by decide +kernel
theorem dX3_control_79 : decode cX3_control 79 = .ok (.iadd, 1) := by decide +kernel
theorem dX3_control_80 : decode cX3_control 80 = .ok (.ireturn, 1) := by decide +kernel
theorem dX3_control_81 : decode cX3_control 81 = .ok (.aload_n 0, 1) := by decide +kernel
theorem dX3_control_82 : decode cX3_control 82 = .ok (.aload_n 0, 1) := by decide +kernel
theorem dX3_control_83 : decode cX3_control 83 = .ok (.iload_n 1, 1) := by decide +kernel
theorem dX3_control_84 : decode cX3_control 84 = .ok (.invokevirtual 67, 3) := by decide +kernel
theorem dX3_control_87 : decode cX3_control 87 = .ok (.iconst 0, 1) := by decide +kernel
theorem dX3_control_88 : decode cX3_control 88 = .ok (.iload_n 3, 1) := by decide +kernel
theorem dX3_control_89 : decode cX3_control 89 = .ok (.iadd, 1) := by decide +kernel
theorem dX3_control_90 : decode cX3_control 90 = .ok (.invokevirtual 33, 3) := by decide +kernel
theorem dX3_control_93 : decode cX3_control 93 = .ok (.ireturn, 1) := by decide +kernel
theorem dX3_isStraight_0 : decode cX3_isStraight 0 = .ok (.aload_n 0, 1) := by decide +kernel
theorem dX3_isStraight_1 : decode cX3_isStraight 1 = .ok (.iload_n 1, 1) := by decide +kernel
theorem dX3_isStraight_2 : decode cX3_isStraight 2 = .ok (.iconst 4, 1) := by decide +kernel
theorem dX3_isStraight_3 : decode cX3_isStraight 3 = .ok (.invokevirtual 110, 3) := by decide +kernel
theorem dX3_isStraight_6 : decode cX3_isStraight 6 = .ok (.ifCond .eq 20, 3) := by decide +kernel
theorem dX3_isStraight_9 : decode cX3_isStraight 9 = .ok (.aload_n 0, 1) := by decide +kernel
theorem dX3_isStraight_10 : decode cX3_isStraight 10 = .ok (.aload_n 0, 1) := by decide +kernel
theorem dX3_isStraight_11 : decode cX3_isStraight 11 = .ok (.iload_n 1, 1) := by decide +kernel
theorem dX3_isStraight_12 : decode cX3_isStraight 12 = .ok (.invokevirtual 67, 3) := by decide +kernel
theorem dX3_isStraight_15 : decode cX3_isStraight 15 = .ok (.iconst 2, 1) := by decide +kernel
theorem dX3_isStraight_16 : decode cX3_isStraight 16 = .ok (.invokevirtual 110, 3) := by decide +kernel
theorem dX3_isStraight_19 : decode cX3_isStraight 19 = .ok (.ifCond .eq 7, 3) := by decide +kernel
theorem dX3_isStraight_22 : decode cX3_isStraight 22 = .ok (.iconst 1, 1) := by decide +kernel
theorem dX3_isStraight_23 : decode cX3_isStraight 23 = .ok (.goto 4, 3) := by decide +kernel
theorem dX3_isStraight_26 : decode cX3_isStraight 26 = .ok (.iconst 0, 1) := by decide +kernel
theorem dX3_isStraight_27 : decode cX3_isStraight 27 = .ok (.ireturn, 1) := by decide +kernel
theorem dX3_sixtyAreas_0 : decode cX3_sixtyAreas 0 = .ok (.lconst 0, 1) := by decide +kernel
theorem dX3_sixtyAreas_1 : decode cX3_sixtyAreas 1 = .ok (.lstore_n 1, 1) := by decide +kernel
theorem dX3_sixtyAreas_2 : decode cX3_sixtyAreas 2 = .ok (.iconst 0, 1) := by decide +kernel
theorem dX3_sixtyAreas_3 : decode cX3_sixtyAreas 3 = .ok (.istore_n 3, 1) := by decide +kernel
theorem dX3_sixtyAreas_4 : decode cX3_sixtyAreas 4 = .ok (.iload_n 3, 1) := by decide +kernel
theorem dX3_sixtyAreas_5 : decode cX3_sixtyAreas 5 = .ok (.aload_n 0, 1) := by decide +kernel
theorem dX3_sixtyAreas_6 : decode cX3_sixtyAreas 6 = .ok (.invokevirtual 29, 3) := by decide +kernel
theorem dX3_sixtyAreas_9 : decode cX3_sixtyAreas 9 = .ok (.if_icmp .ge 80, 3) := by decide +kernel
theorem dX3_sixtyAreas_12 : decode cX3_sixtyAreas 12 = .ok (.iconst 0, 1) := by decide +kernel
theorem dX3_sixtyAreas_13 : decode cX3_sixtyAreas 13 = .ok (.istore 4, 2) := by decide +kernel
theorem dX3_sixtyAreas_15 : decode cX3_sixtyAreas 15 = .ok (.iload 4, 2) := by decide +kernel
theorem dX3_sixtyAreas_17 : decode cX3_sixtyAreas 17 = .ok (.getstatic 114, 3) := by decide +kernel
theorem dX3_sixtyAreas_20 : decode cX3_sixtyAreas 20 = .ok (.arraylength, 1) := by decide +kernel
theorem dX3_sixtyAreas_21 : decode cX3_sixtyAreas 21 = .ok (.if_icmp .ge 62, 3) := by decide +kernel
theorem dX3_sixtyAreas_24 : decode cX3_sixtyAreas 24 = .ok (.iload 4, 2) := by decide +kernel
theorem dX3_sixtyAreas_26 : decode cX3_sixtyAreas 26 = .ok (.iconst 3, 1) := by decide +kernel
theorem dX3_sixtyAreas_27 : decode cX3_sixtyAreas 27 = .ok (.irem, 1) := by decide +kernel
theorem dX3_sixtyAreas_28 : decode cX3_sixtyAreas 28 = .ok (.istore 5, 2) := by decide +kernel
theorem dX3_sixtyAreas_30 : decode cX3_sixtyAreas 30 = .ok (.aload_n 0, 1) := by decide +kernel
theorem dX3_sixtyAreas_31 : decode cX3_sixtyAreas 31 = .ok (.iload_n 3, 1) := by decide +kernel
theorem dX3_sixtyAreas_32 : decode cX3_sixtyAreas 32 = .ok (.iload 5, 2) := by decide +kernel
theorem dX3_sixtyAreas_34 : decode cX3_sixtyAreas 34 = .ok (.iconst 1, 1) := by decide +kernel
theorem dX3_sixtyAreas_35 : decode cX3_sixtyAreas 35 = .ok (.iadd, 1) := by decide +kernel
theorem dX3_sixtyAreas_36 : decode cX3_sixtyAreas 36 = .ok (.iconst 1, 1) := by decide +kernel
theorem dX3_sixtyAreas_37 : decode cX3_sixtyAreas 37 = .ok (.invokevirtual 117, 3) := by decide +kernel
theorem dX3_sixtyAreas_40 : decode cX3_sixtyAreas 40 = .ok (.aload_n 0, 1) := by decide +kernel
theorem dX3_sixtyAreas_41 : decode cX3_sixtyAreas 41 = .ok (.iload_n 3, 1) := by decide +kernel
theorem dX3_sixtyAreas_42 : decode cX3_sixtyAreas 42 = .ok (.iload 5, 2) := by decide +kernel
theorem dX3_sixtyAreas_44 : decode cX3_sixtyAreas 44 = .ok (.iconst 1, 1) := by decide +kernel
theorem dX3_sixtyAreas_45 : decode cX3_sixtyAreas 45 = .ok (.invokevirtual 117, 3) := by decide +kernel
theorem dX3_sixtyAreas_48 : decode cX3_sixtyAreas 48 = .ok (.isub, 1) := by decide +kernel
theorem dX3_sixtyAreas_49 : decode cX3_sixtyAreas 49 = .ok (.i2l, 1) := by decide +kernel
theorem dX3_sixtyAreas_50 : decode cX3_sixtyAreas 50 = .ok (.lstore 6, 2) := by decide +kernel
theorem dX3_sixtyAreas_52 : decode cX3_sixtyAreas 52 = .ok (.lload_n 1, 1) := by decide +kernel
theorem dX3_sixtyAreas_53 : decode cX3_sixtyAreas 53 = .ok (.getstatic 114, 3) := by decide +kernel
theorem dX3_sixtyAreas_56 : decode cX3_sixtyAreas 56 = .ok (.iload 4, 2) := by decide +kernel
theorem dX3_sixtyAreas_58 : decode cX3_sixtyAreas 58 = .ok (.iaload, 1) := by decide +kernel
theorem dX3_sixtyAreas_59 : decode cX3_sixtyAreas 59 = .ok (.i2l, 1) := by decide +kernel
theorem dX3_sixtyAreas_60 : decode cX3_sixtyAreas 60 = .ok (.lload 6, 2) := by decide +kernel
theorem dX3_sixtyAreas_62 : decode cX3_sixtyAreas 62 = .ok (.lmul, 1) := by decide +kernel
theorem dX3_sixtyAreas_63 : decode cX3_sixtyAreas 63 = .ok (.aload_n 0, 1) := by decide +kernel
theorem dX3_sixtyAreas_64 : decode cX3_sixtyAreas 64 = .ok (.iload_n 3, 1) := by decide +kernel
theorem dX3_sixtyAreas_65 : decode cX3_sixtyAreas 65 = .ok (.iload 4, 2) := by decide +kernel
theorem dX3_sixtyAreas_67 : decode cX3_sixtyAreas 67 = .ok (.iconst 3, 1) := by decide +kernel
theorem dX3_sixtyAreas_68 : decode cX3_sixtyAreas 68 = .ok (.idiv, 1) := by decide +kernel
theorem dX3_sixtyAreas_69 : decode cX3_sixtyAreas 69 = .ok (.iconst 0, 1) := by decide +kernel
theorem dX3_sixtyAreas_70 : decode cX3_sixtyAreas 70 = .ok (.invokevirtual 117, 3) := by decide +kernel
theorem dX3_sixtyAreas_73 : decode cX3_sixtyAreas 73 = .ok (.i2l, 1) := by decide +kernel
theorem dX3_sixtyAreas_74 : decode cX3_sixtyAreas 74 = .ok (.lmul, 1) := by decide +kernel
theorem dX3_sixtyAreas_75 : decode cX3_sixtyAreas 75 = .ok (.ladd, 1) := by decide +kernel
theorem dX3_sixtyAreas_76 : decode cX3_sixtyAreas 76 = .ok (.lstore_n 1, 1) := by decide +kernel
theorem dX3_sixtyAreas_77 : decode cX3_sixtyAreas 77 = .ok (.iinc 4 1, 3) := by decide +kernel
theorem dX3_sixtyAreas_80 : decode cX3_sixtyAreas 80 = .ok (.goto (-65), 3) := by decide +kernel
theorem dX3_sixtyAreas_83 : decode cX3_sixtyAreas 83 = .ok (.iinc 3 1, 3) := by decide +kernel
theorem dX3_sixtyAreas_86 : decode cX3_sixtyAreas 86 = .ok (.goto (-82), 3) := by decide +kernel
theorem dX3_sixtyAreas_89 : decode cX3_sixtyAreas 89 = .ok (.lload_n 1, 1) := by decide +kernel
theorem dX3_sixtyAreas_90 : decode cX3_sixtyAreas 90 = .ok (.lreturn, 1) := by decide +kernel
theorem dX3_extreme_0 : decode cX3_extreme 0 = .ok (.aload_n 0, 1) := by decide +kernel
theorem dX3_extreme_1 : decode cX3_extreme 1 = .ok (.iconst 0, 1) := by decide +kernel
theorem dX3_extreme_2 : decode cX3_extreme 2 = .ok (.iconst 0, 1) := by decide +kernel
theorem dX3_extreme_3 : decode cX3_extreme 3 = .ok (.iload_n 1, 1) := by decide +kernel
theorem dX3_extreme_4 : decode cX3_extreme 4 = .ok (.iadd, 1) := by decide +kernel
theorem dX3_extreme_5 : decode cX3_extreme 5 = .ok (.invokevirtual 33, 3) := by decide +kernel
theorem dX3_extreme_8 : decode cX3_extreme 8 = .ok (.istore_n 3, 1) := by decide +kernel
theorem dX3_extreme_9 : decode cX3_extreme 9 = .ok (.iconst 0, 1) := by decide +kernel
theorem dX3_extreme_10 : decode cX3_extreme 10 = .ok (.istore 4, 2) := by decide +kernel
theorem dX3_extreme_12 : decode cX3_extreme 12 = .ok (.iload 4, 2) := by decide +kernel
theorem dX3_extreme_14 : decode cX3_extreme 14 = .ok (.aload_n 0, 1) := by decide +kernel
theorem dX3_extreme_15 : decode cX3_extreme 15 = .ok (.invokevirtual 29, 3) := by decide +kernel
theorem dX3_extreme_18 : decode cX3_extreme 18 = .ok (.if_icmp .ge 55, 3) := by decide +kernel
theorem dX3_extreme_21 : decode cX3_extreme 21 = .ok (.iconst 0, 1) := by decide +kernel
theorem dX3_extreme_22 : decode cX3_extreme 22 = .ok (.istore 5, 2) := by decide +kernel
theorem dX3_extreme_24 : decode cX3_extreme 24 = .ok (.iload 5, 2) := by decide +kernel
theorem dX3_extreme_26 : decode cX3_extreme 26 = .ok (.iconst 4, 1) := by decide +kernel
theorem dX3_extreme_27 : decode cX3_extreme 27 = .ok (.if_icmp .ge 40, 3) := by decide +kernel
theorem dX3_extreme_30 : decode cX3_extreme 30 = .ok (.aload_n 0, 1) := by decide +kernel
theorem dX3_extreme_31 : decode cX3_extreme 31 = .ok (.iload 4, 2) := by decide +kernel
theorem dX3_extreme_33 : decode cX3_extreme 33 = .ok (.iload 5, 2) := by decide +kernel
theorem dX3_extreme_35 : decode cX3_extreme 35 = .ok (.iload_n 1, 1) := by decide +kernel
theorem dX3_extreme_36 : decode cX3_extreme 36 = .ok (.invokevirtual 117, 3) := by decide +kernel
theorem dX3_extreme_39 : decode cX3_extreme 39 = .ok (.istore 6, 2) := by decide +kernel
theorem dX3_extreme_41 : decode cX3_extreme 41 = .ok (.iload_n 2, 1) := by decide +kernel
theorem dX3_extreme_42 : decode cX3_extreme 42 = .ok (.ifCond .eq 12, 3) := by decide +kernel
theorem dX3_extreme_45 : decode cX3_extreme 45 = .ok (.iload_n 3, 1) := by decide +kernel
theorem dX3_extreme_46 : decode cX3_extreme 46 = .ok (.iload 6, 2) := by decide +kernel
theorem dX3_extreme_48 : decode cX3_extreme 48 = .ok (.invokestatic 121, 3) := by decide +kernel
theorem dX3_extreme_51 : decode cX3_extreme 51 = .ok (.goto 9, 3) := by decide +kernel
theorem dX3_extreme_54 : decode cX3_extreme 54 = .ok (.iload_n 3, 1) := by decide +kernel
theorem dX3_extreme_55 : decode cX3_extreme 55 = .ok (.iload 6, 2) := by decide +kernel
theorem dX3_extreme_57 : decode cX3_extreme 57 = .ok (.invokestatic 126, 3) := by decide +kernel
theorem dX3_extreme_60 : decode cX3_extreme 60 = .ok (.istore_n 3, 1) := by decide +kernel
theorem dX3_extreme_61 : decode cX3_extreme 61 = .ok (.iinc 5 1, 3) := by decide +kernel
theorem dX3_extreme_64 : decode cX3_extreme 64 = .ok (.goto (-40), 3) := by decide +kernel
theorem dX3_extreme_67 : decode cX3_extreme 67 = .ok (.iinc 4 1, 3) := by decide +kernel
theorem dX3_extreme_70 : decode cX3_extreme 70 = .ok (.goto (-58), 3) := by decide +kernel
theorem dX3_extreme_73 : decode cX3_extreme 73 = .ok (.iload_n 3, 1) := by decide +kernel
theorem dX3_extreme_74 : decode cX3_extreme 74 = .ok (.ireturn, 1) := by decide +kernel
theorem dX3_nodeAt_0 : decode cX3_nodeAt 0 = .ok (.iconst 0, 1) := by decide +kernel
theorem dX3_nodeAt_1 : decode cX3_nodeAt 1 = .ok (.istore_n 3, 1) := by decide +kernel
theorem dX3_nodeAt_2 : decode cX3_nodeAt 2 = .ok (.iload_n 3, 1) := by decide +kernel
theorem dX3_nodeAt_3 : decode cX3_nodeAt 3 = .ok (.aload_n 0, 1) := by decide +kernel
theorem dX3_nodeAt_4 : decode cX3_nodeAt 4 = .ok (.getfield 21, 3) := by decide +kernel
theorem dX3_nodeAt_7 : decode cX3_nodeAt 7 = .ok (.if_icmp .ge 31, 3) := by decide +kernel
theorem dX3_nodeAt_10 : decode cX3_nodeAt 10 = .ok (.aload_n 0, 1) := by decide +kernel
theorem dX3_nodeAt_11 : decode cX3_nodeAt 11 = .ok (.iload_n 3, 1) := by decide +kernel
theorem dX3_nodeAt_12 : decode cX3_nodeAt 12 = .ok (.iconst 0, 1) := by decide +kernel
theorem dX3_nodeAt_13 : decode cX3_nodeAt 13 = .ok (.invokevirtual 33, 3) := by decide +kernel
theorem dX3_nodeAt_16 : decode cX3_nodeAt 16 = .ok (.iload_n 1, 1) := by decide +kernel
theorem dX3_nodeAt_17 : decode cX3_nodeAt 17 = .ok (.if_icmp .ne 15, 3) := by decide +kernel
theorem dX3_nodeAt_20 : decode cX3_nodeAt 20 = .ok (.aload_n 0, 1) := by decide +kernel
theorem dX3_nodeAt_21 : decode cX3_nodeAt 21 = .ok (.iload_n 3, 1) := by decide +kernel
theorem dX3_nodeAt_22 : decode cX3_nodeAt 22 = .ok (.iconst 1, 1) := by decide +kernel
theorem dX3_nodeAt_23 : decode cX3_nodeAt 23 = .ok (.invokevirtual 33, 3) := by decide +kernel
theorem dX3_nodeAt_26 : decode cX3_nodeAt 26 = .ok (.iload_n 2, 1) := by decide +kernel
theorem dX3_nodeAt_27 : decode cX3_nodeAt 27 = .ok (.if_icmp .ne 5, 3) := by decide +kernel
theorem dX3_nodeAt_30 : decode cX3_nodeAt 30 = .ok (.iload_n 3, 1) := by decide +kernel
theorem dX3_nodeAt_31 : decode cX3_nodeAt 31 = .ok (.ireturn, 1) := by decide +kernel
theorem dX3_nodeAt_32 : decode cX3_nodeAt 32 = .ok (.iinc 3 1, 3) := by decide +kernel
theorem dX3_nodeAt_35 : decode cX3_nodeAt 35 = .ok (.goto (-33), 3) := by decide +kernel
theorem dX3_nodeAt_38 : decode cX3_nodeAt 38 = .ok (.ldc 41, 2) := by decide +kernel
theorem dX3_nodeAt_40 : decode cX3_nodeAt 40 = .ok (.ireturn, 1) := by decide +kernel
theorem dX3_hashOnto_0 : decode cX3_hashOnto 0 = .ok (.lload_n 1, 1) := by decide +kernel
theorem dX3_hashOnto_1 : decode cX3_hashOnto 1 = .ok (.ldc2_w 129, 3) := by decide +kernel
theorem dX3_hashOnto_4 : decode cX3_hashOnto 4 = .ok (.lmul, 1) := by decide +kernel
theorem dX3_hashOnto_5 : decode cX3_hashOnto 5 = .ok (.aload_n 0, 1) := by decide +kernel
theorem dX3_hashOnto_6 : decode cX3_hashOnto 6 = .ok (.getfield 21, 3) := by decide +kernel
theorem dX3_hashOnto_9 : decode cX3_hashOnto 9 = .ok (.i2l, 1) := by decide +kernel
theorem dX3_hashOnto_10 : decode cX3_hashOnto 10 = .ok (.ladd, 1) := by decide +kernel
theorem dX3_hashOnto_11 : decode cX3_hashOnto 11 = .ok (.ldc2_w 129, 3) := by decide +kernel
theorem dX3_hashOnto_14 : decode cX3_hashOnto 14 = .ok (.lmul, 1) := by decide +kernel
theorem dX3_hashOnto_15 : decode cX3_hashOnto 15 = .ok (.aload_n 0, 1) := by decide +kernel
theorem dX3_hashOnto_16 : decode cX3_hashOnto 16 = .ok (.getfield 25, 3) := by decide +kernel
theorem dX3_hashOnto_19 : decode cX3_hashOnto 19 = .ok (.ifCond .eq 7, 3) := by decide +kernel
theorem dX3_hashOnto_22 : decode cX3_hashOnto 22 = .ok (.iconst 1, 1) := by decide +kernel
theorem dX3_hashOnto_23 : decode cX3_hashOnto 23 = .ok (.goto 4, 3) := by decide +kernel
theorem dX3_hashOnto_26 : decode cX3_hashOnto 26 = .ok (.iconst 0, 1) := by decide +kernel
theorem dX3_hashOnto_27 : decode cX3_hashOnto 27 = .ok (.i2l, 1) := by decide +kernel
theorem dX3_hashOnto_28 : decode cX3_hashOnto 28 = .ok (.ladd, 1) := by decide +kernel
theorem dX3_hashOnto_29 : decode cX3_hashOnto 29 = .ok (.lstore_n 3, 1) := by decide +kernel
theorem dX3_hashOnto_30 : decode cX3_hashOnto 30 = .ok (.iconst 0, 1) := by decide +kernel
theorem dX3_hashOnto_31 : decode cX3_hashOnto 31 = .ok (.istore 5, 2) := by decide +kernel
theorem dX3_hashOnto_33 : decode cX3_hashOnto 33 = .ok (.iload 5, 2) := by decide +kernel
theorem dX3_hashOnto_35 : decode cX3_hashOnto 35 = .ok (.aload_n 0, 1) := by decide +kernel
theorem dX3_hashOnto_36 : decode cX3_hashOnto 36 = .ok (.getfield 21, 3) := by decide +kernel
theorem dX3_hashOnto_39 : decode cX3_hashOnto 39 = .ok (.if_icmp .ge 73, 3) := by decide +kernel
theorem dX3_hashOnto_42 : decode cX3_hashOnto 42 = .ok (.iconst 0, 1) := by decide +kernel
theorem dX3_hashOnto_43 : decode cX3_hashOnto 43 = .ok (.istore 6, 2) := by decide +kernel
theorem dX3_hashOnto_45 : decode cX3_hashOnto 45 = .ok (.iload 6, 2) := by decide +kernel
theorem dX3_hashOnto_47 : decode cX3_hashOnto 47 = .ok (.bipush 6, 2) := by decide +kernel
theorem dX3_hashOnto_49 : decode cX3_hashOnto 49 = .ok (.if_icmp .ge 25, 3) := by decide +kernel
theorem dX3_hashOnto_52 : decode cX3_hashOnto 52 = .ok (.ldc2_w 129, 3) := by decide +kernel
theorem dX3_hashOnto_55 : decode cX3_hashOnto 55 = .ok (.lload_n 3, 1) := by decide +kernel
theorem dX3_hashOnto_56 : decode cX3_hashOnto 56 = .ok (.lmul, 1) := by decide +kernel
theorem dX3_hashOnto_57 : decode cX3_hashOnto 57 = .ok (.aload_n 0, 1) := by decide +kernel
theorem dX3_hashOnto_58 : decode cX3_hashOnto 58 = .ok (.iload 5, 2) := by decide +kernel
theorem dX3_hashOnto_60 : decode cX3_hashOnto 60 = .ok (.iload 6, 2) := by decide +kernel
theorem dX3_hashOnto_62 : decode cX3_hashOnto 62 = .ok (.invokevirtual 33, 3) := by decide +kernel
theorem dX3_hashOnto_65 : decode cX3_hashOnto 65 = .ok (.i2l, 1) := by decide +kernel
theorem dX3_hashOnto_66 : decode cX3_hashOnto 66 = .ok (.ladd, 1) := by decide +kernel
theorem dX3_hashOnto_67 : decode cX3_hashOnto 67 = .ok (.lstore_n 3, 1) := by decide +kernel
theorem dX3_hashOnto_68 : decode cX3_hashOnto 68 = .ok (.iinc 6 1, 3) := by decide +kernel
theorem dX3_hashOnto_71 : decode cX3_hashOnto 71 = .ok (.goto (-26), 3) := by decide +kernel
theorem dX3_hashOnto_74 : decode cX3_hashOnto 74 = .ok (.ldc2_w 129, 3) := by decide +kernel
theorem dX3_hashOnto_77 : decode cX3_hashOnto 77 = .ok (.lload_n 3, 1) := by decide +kernel
theorem dX3_hashOnto_78 : decode cX3_hashOnto 78 = .ok (.lmul, 1) := by decide +kernel
theorem dX3_hashOnto_79 : decode cX3_hashOnto 79 = .ok (.aload_n 0, 1) := by decide +kernel
theorem dX3_hashOnto_80 : decode cX3_hashOnto 80 = .ok (.iload 5, 2) := by decide +kernel
theorem dX3_hashOnto_82 : decode cX3_hashOnto 82 = .ok (.bipush 6, 2) := by decide +kernel
theorem dX3_hashOnto_84 : decode cX3_hashOnto 84 = .ok (.invokevirtual 131, 3) := by decide +kernel
theorem dX3_hashOnto_87 : decode cX3_hashOnto 87 = .ok (.i2l, 1) := by decide +kernel
theorem dX3_hashOnto_88 : decode cX3_hashOnto 88 = .ok (.ladd, 1) := by decide +kernel
theorem dX3_hashOnto_89 : decode cX3_hashOnto 89 = .ok (.lstore_n 3, 1) := by decide +kernel
theorem dX3_hashOnto_90 : decode cX3_hashOnto 90 = .ok (.ldc2_w 129, 3) := by decide +kernel
theorem dX3_hashOnto_93 : decode cX3_hashOnto 93 = .ok (.lload_n 3, 1) := by decide +kernel
theorem dX3_hashOnto_94 : decode cX3_hashOnto 94 = .ok (.lmul, 1) := by decide +kernel
theorem dX3_hashOnto_95 : decode cX3_hashOnto 95 = .ok (.aload_n 0, 1) := by decide +kernel
theorem dX3_hashOnto_96 : decode cX3_hashOnto 96 = .ok (.iload 5, 2) := by decide +kernel
theorem dX3_hashOnto_98 : decode cX3_hashOnto 98 = .ok (.bipush 7, 2) := by decide +kernel
theorem dX3_hashOnto_100 : decode cX3_hashOnto 100 = .ok (.invokevirtual 131, 3) := by decide +kernel
theorem dX3_hashOnto_103 : decode cX3_hashOnto 103 = .ok (.i2l, 1) := by decide +kernel
theorem dX3_hashOnto_104 : decode cX3_hashOnto 104 = .ok (.ladd, 1) := by decide +kernel
theorem dX3_hashOnto_105 : decode cX3_hashOnto 105 = .ok (.lstore_n 3, 1) := by decide +kernel
theorem dX3_hashOnto_106 : decode cX3_hashOnto 106 = .ok (.iinc 5 1, 3) := by decide +kernel
theorem dX3_hashOnto_109 : decode cX3_hashOnto 109 = .ok (.goto (-76), 3) := by decide +kernel
theorem dX3_hashOnto_112 : decode cX3_hashOnto 112 = .ok (.aload_n 0, 1) := by decide +kernel
theorem dX3_hashOnto_113 : decode cX3_hashOnto 113 = .ok (.getfield 25, 3) := by decide +kernel
theorem dX3_hashOnto_116 : decode cX3_hashOnto 116 = .ok (.ifCond .eq 16, 3) := by decide +kernel
theorem dX3_hashOnto_119 : decode cX3_hashOnto 119 = .ok (.ldc2_w 129, 3) := by decide +kernel
theorem dX3_hashOnto_122 : decode cX3_hashOnto 122 = .ok (.lload_n 3, 1) := by decide +kernel
theorem dX3_hashOnto_123 : decode cX3_hashOnto 123 = .ok (.lmul, 1) := by decide +kernel
theorem dX3_hashOnto_124 : decode cX3_hashOnto 124 = .ok (.aload_n 0, 1) := by decide +kernel
theorem dX3_hashOnto_125 : decode cX3_hashOnto 125 = .ok (.invokevirtual 134, 3) := by decide +kernel
theorem dX3_hashOnto_128 : decode cX3_hashOnto 128 = .ok (.ladd, 1) := by decide +kernel
theorem dX3_hashOnto_129 : decode cX3_hashOnto 129 = .ok (.goto 4, 3) := by decide +kernel
theorem dX3_hashOnto_132 : decode cX3_hashOnto 132 = .ok (.lload_n 3, 1) := by decide +kernel
theorem dX3_hashOnto_133 : decode cX3_hashOnto 133 = .ok (.lreturn, 1) := by decide +kernel
theorem dX4_init_0 : decode cX4_init 0 = .ok (.aload_n 0, 1) := by decide +kernel
theorem dX4_init_1 : decode cX4_init 1 = .ok (.invokespecial 3, 3) := by decide +kernel
theorem dX4_init_4 : decode cX4_init 4 = .ok (.aload_n 0, 1) := by decide +kernel
theorem dX4_init_5 : decode cX4_init 5 = .ok (.bipush 6, 2) := by decide +kernel
theorem dX4_init_7 : decode cX4_init 7 = .ok (.anewarray 9, 3) := by decide +kernel
theorem dX4_init_10 : decode cX4_init 10 = .ok (.putfield 11, 3) := by decide +kernel
theorem dX4_init_13 : decode cX4_init 13 = .ok (.iconst 0, 1) := by decide +kernel
theorem dX4_init_14 : decode cX4_init 14 = .ok (.istore_n 1, 1) := by decide +kernel
theorem dX4_init_15 : decode cX4_init 15 = .ok (.iload_n 1, 1) := by decide +kernel
theorem dX4_init_16 : decode cX4_init 16 = .ok (.bipush 6, 2) := by decide +kernel
theorem dX4_init_18 : decode cX4_init 18 = .ok (.if_icmp .ge 22, 3) := by decide +kernel
theorem dX4_init_21 : decode cX4_init 21 = .ok (.aload_n 0, 1) := by decide +kernel
theorem dX4_init_22 : decode cX4_init 22 = .ok (.getfield 11, 3) := by decide +kernel
theorem dX4_init_25 : decode cX4_init 25 = .ok (.iload_n 1, 1) := by decide +kernel
theorem dX4_init_26 : decode cX4_init 26 = .ok (.new 9, 3) := by decide +kernel
theorem dX4_init_29 : decode cX4_init 29 = .ok (.dup, 1) := by decide +kernel
theorem dX4_init_30 : decode cX4_init 30 = .ok (.invokespecial 17, 3) := by decide +kernel
theorem dX4_init_33 : decode cX4_init 33 = .ok (.aastore, 1) := by decide +kernel
theorem dX4_init_34 : decode cX4_init 34 = .ok (.iinc 1 1, 3) := by decide +kernel
theorem dX4_init_37 : decode cX4_init 37 = .ok (.goto (-22), 3) := by decide +kernel
theorem dX4_init_40 : decode cX4_init 40 = .ok (.return_, 1) := by decide +kernel
theorem dX4_copyFrom_0 : decode cX4_copyFrom 0 = .ok (.iconst 0, 1) := by decide +kernel
theorem dX4_copyFrom_1 : decode cX4_copyFrom 1 = .ok (.istore_n 2, 1) := by decide +kernel
theorem dX4_copyFrom_2 : decode cX4_copyFrom 2 = .ok (.iload_n 2, 1) := by decide +kernel
theorem dX4_copyFrom_3 : decode cX4_copyFrom 3 = .ok (.aload_n 1, 1) := by decide +kernel
theorem dX4_copyFrom_4 : decode cX4_copyFrom 4 = .ok (.getfield 18, 3) := by decide +kernel
theorem dX4_copyFrom_7 : decode cX4_copyFrom 7 = .ok (.if_icmp .ge 24, 3) := by decide +kernel
theorem dX4_copyFrom_10 : decode cX4_copyFrom 10 = .ok (.aload_n 0, 1) := by decide +kernel
theorem dX4_copyFrom_11 : decode cX4_copyFrom 11 = .ok (.getfield 11, 3) := by decide +kernel
theorem dX4_copyFrom_14 : decode cX4_copyFrom 14 = .ok (.iload_n 2, 1) := by decide +kernel
theorem dX4_copyFrom_15 : decode cX4_copyFrom 15 = .ok (.aaload, 1) := by decide +kernel
theorem dX4_copyFrom_16 : decode cX4_copyFrom 16 = .ok (.aload_n 1, 1) := by decide +kernel
theorem dX4_copyFrom_17 : decode cX4_copyFrom 17 = .ok (.getfield 11, 3) := by decide +kernel
theorem dX4_copyFrom_20 : decode cX4_copyFrom 20 = .ok (.iload_n 2, 1) := by decide +kernel
theorem dX4_copyFrom_21 : decode cX4_copyFrom 21 = .ok (.aaload, 1) := by decide +kernel
theorem dX4_copyFrom_22 : decode cX4_copyFrom 22 = .ok (.invokevirtual 22, 3) := by decide +kernel
theorem dX4_copyFrom_25 : decode cX4_copyFrom 25 = .ok (.iinc 2 1, 3) := by decide +kernel
theorem dX4_copyFrom_28 : decode cX4_copyFrom 28 = .ok (.goto (-26), 3) := by decide +kernel
theorem dX4_copyFrom_31 : decode cX4_copyFrom 31 = .ok (.aload_n 0, 1) := by decide +kernel
theorem dX4_copyFrom_32 : decode cX4_copyFrom 32 = .ok (.aload_n 1, 1) := by decide +kernel
theorem dX4_copyFrom_33 : decode cX4_copyFrom 33 = .ok (.getfield 18, 3) := by decide +kernel
theorem dX4_copyFrom_36 : decode cX4_copyFrom 36 = .ok (.putfield 18, 3) := by decide +kernel
theorem dX4_copyFrom_39 : decode cX4_copyFrom 39 = .ok (.return_, 1) := by decide +kernel
theorem dX4_pathAt_0 : decode cX4_pathAt 0 = .ok (.iload_n 1, 1) := by decide +kernel
theorem dX4_pathAt_1 : decode cX4_pathAt 1 = .ok (.ifCond .lt 11, 3) := by decide +kernel
theorem dX4_pathAt_4 : decode cX4_pathAt 4 = .ok (.iload_n 1, 1) := by decide +kernel
theorem dX4_pathAt_5 : decode cX4_pathAt 5 = .ok (.aload_n 0, 1) := by decide +kernel
theorem dX4_pathAt_6 : decode cX4_pathAt 6 = .ok (.getfield 18, 3) := by decide +kernel
theorem dX4_pathAt_9 : decode cX4_pathAt 9 = .ok (.if_icmp .lt 7, 3) := by decide +kernel
theorem dX4_pathAt_12 : decode cX4_pathAt 12 = .ok (.aconst_null, 1) := by decide +kernel
theorem dX4_pathAt_13 : decode cX4_pathAt 13 = .ok (.goto 9, 3) := by decide +kernel
theorem dX4_pathAt_16 : decode cX4_pathAt 16 = .ok (.aload_n 0, 1) := by decide +kernel
theorem dX4_pathAt_17 : decode cX4_pathAt 17 = .ok (.getfield 11, 3) := by decide +kernel
theorem dX4_pathAt_20 : decode cX4_pathAt 20 = .ok (.iload_n 1, 1) := by decide +kernel
theorem dX4_pathAt_21 : decode cX4_pathAt 21 = .ok (.aaload, 1) := by decide +kernel
theorem dX4_pathAt_22 : decode cX4_pathAt 22 = .ok (.areturn, 1) := by decide +kernel
theorem dX4_newPath_0 : decode cX4_newPath 0 = .ok (.aload_n 0, 1) := by decide +kernel
theorem dX4_newPath_1 : decode cX4_newPath 1 = .ok (.getfield 18, 3) := by decide +kernel
theorem dX4_newPath_4 : decode cX4_newPath 4 = .ok (.bipush 6, 2) := by decide +kernel
theorem dX4_newPath_6 : decode cX4_newPath 6 = .ok (.if_icmp .lt 5, 3) := by decide +kernel
theorem dX4_newPath_9 : decode cX4_newPath 9 = .ok (.aconst_null, 1) := by decide +kernel
theorem dX4_newPath_10 : decode cX4_newPath 10 = .ok (.areturn, 1) := by decide +kernel
theorem dX4_newPath_11 : decode cX4_newPath 11 = .ok (.aload_n 0, 1) := by decide +kernel
theorem dX4_newPath_12 : decode cX4_newPath 12 = .ok (.getfield 11, 3) := by decide +kernel
theorem dX4_newPath_15 : decode cX4_newPath 15 = .ok (.aload_n 0, 1) := by decide +kernel
theorem dX4_newPath_16 : decode cX4_newPath 16 = .ok (.getfield 18, 3) := by decide +kernel
theorem dX4_newPath_19 : decode cX4_newPath 19 = .ok (.aaload, 1) := by decide +kernel
theorem dX4_newPath_20 : decode cX4_newPath 20 = .ok (.astore_n 1, 1) := by decide +kernel
theorem dX4_newPath_21 : decode cX4_newPath 21 = .ok (.aload_n 1, 1) := by decide +kernel
theorem dX4_newPath_22 : decode cX4_newPath 22 = .ok (.invokevirtual 26, 3) := by decide +kernel
theorem dX4_newPath_25 : decode cX4_newPath 25 = .ok (.aload_n 0, 1) := by decide +kernel
theorem dX4_newPath_26 : decode cX4_newPath 26 = .ok (.dup, 1) := by decide +kernel
theorem dX4_newPath_27 : decode cX4_newPath 27 = .ok (.getfield 18, 3) := by decide +kernel
theorem dX4_newPath_30 : decode cX4_newPath 30 = .ok (.iconst 1, 1) := by decide +kernel
theorem dX4_newPath_31 : decode cX4_newPath 31 = .ok (.iadd, 1) := by decide +kernel
theorem dX4_newPath_32 : decode cX4_newPath 32 = .ok (.putfield 18, 3) := by decide +kernel
theorem dX4_newPath_35 : decode cX4_newPath 35 = .ok (.aload_n 1, 1) := by decide +kernel
theorem dX4_newPath_36 : decode cX4_newPath 36 = .ok (.areturn, 1) := by decide +kernel
theorem dX4_dropPath_0 : decode cX4_dropPath 0 = .ok (.iload_n 1, 1) := by decide +kernel
theorem dX4_dropPath_1 : decode cX4_dropPath 1 = .ok (.ifCond .lt 11, 3) := by decide +kernel
theorem dX4_dropPath_4 : decode cX4_dropPath 4 = .ok (.iload_n 1, 1) := by decide +kernel
theorem dX4_dropPath_5 : decode cX4_dropPath 5 = .ok (.aload_n 0, 1) := by decide +kernel
theorem dX4_dropPath_6 : decode cX4_dropPath 6 = .ok (.getfield 18, 3) := by decide +kernel
theorem dX4_dropPath_9 : decode cX4_dropPath 9 = .ok (.if_icmp .lt 4, 3) := by decide +kernel
theorem dX4_dropPath_12 : decode cX4_dropPath 12 = .ok (.return_, 1) := by decide +kernel
theorem dX4_dropPath_13 : decode cX4_dropPath 13 = .ok (.aload_n 0, 1) := by decide +kernel
theorem dX4_dropPath_14 : decode cX4_dropPath 14 = .ok (.getfield 11, 3) := by decide +kernel
theorem dX4_dropPath_17 : decode cX4_dropPath 17 = .ok (.iload_n 1, 1) := by decide +kernel
theorem dX4_dropPath_18 : decode cX4_dropPath 18 = .ok (.aaload, 1) := by decide +kernel
theorem dX4_dropPath_19 : decode cX4_dropPath 19 = .ok (.astore_n 2, 1) := by decide +kernel
theorem dX4_dropPath_20 : decode cX4_dropPath 20 = .ok (.iload_n 1, 1) := by decide +kernel
theorem dX4_dropPath_21 : decode cX4_dropPath 21 = .ok (.istore_n 3, 1) := by decide +kernel
theorem dX4_dropPath_22 : decode cX4_dropPath 22 = .ok (.iload_n 3, 1) := by decide +kernel
theorem dX4_dropPath_23 : decode cX4_dropPath 23 = .ok (.aload_n 0, 1) := by decide +kernel
theorem dX4_dropPath_24 : decode cX4_dropPath 24 = .ok (.getfield 18, 3) := by decide +kernel
theorem dX4_dropPath_27 : decode cX4_dropPath 27 = .ok (.iconst 1, 1) := by decide +kernel
theorem dX4_dropPath_28 : decode cX4_dropPath 28 = .ok (.isub, 1) := by decide +kernel
theorem dX4_dropPath_29 : decode cX4_dropPath 29 = .ok (.if_icmp .ge 23, 3) := by decide +kernel
theorem dX4_dropPath_32 : decode cX4_dropPath 32 = .ok (.aload_n 0, 1) := by decide +kernel
theorem dX4_dropPath_33 : decode cX4_dropPath 33 = .ok (.getfield 11, 3) := by decide +kernel
theorem dX4_dropPath_36 : decode cX4_dropPath 36 = .ok (.iload_n 3, 1) := by decide +kernel
theorem dX4_dropPath_37 : decode cX4_dropPath 37 = .ok (.aload_n 0, 1) := by decide +kernel
theorem dX4_dropPath_38 : decode cX4_dropPath 38 = .ok (.getfield 11, 3) := by decide +kernel
theorem dX4_dropPath_41 : decode cX4_dropPath 41 = .ok (.iload_n 3, 1) := by decide +kernel
theorem dX4_dropPath_42 : decode cX4_dropPath 42 = .ok (.iconst 1, 1) := by decide +kernel
theorem dX4_dropPath_43 : decode cX4_dropPath 43 = .ok (.iadd, 1) := by decide +kernel
theorem dX4_dropPath_44 : decode cX4_dropPath 44 = .ok (.aaload, 1) := by decide +kernel
theorem dX4_dropPath_45 : decode cX4_dropPath 45 = .ok (.aastore, 1) := by decide +kernel
theorem dX4_dropPath_46 : decode cX4_dropPath 46 = .ok (.iinc 3 1, 3) := by decide +kernel
theorem dX4_dropPath_49 : decode cX4_dropPath 49 = .ok (.goto (-27), 3) := by decide +kernel
theorem dX4_dropPath_52 : decode cX4_dropPath 52 = .ok (.aload_n 0, 1) := by decide +kernel
theorem dX4_dropPath_53 : decode cX4_dropPath 53 = .ok (.dup, 1) := by decide +kernel
theorem dX4_dropPath_54 : decode cX4_dropPath 54 = .ok (.getfield 18, 3) := by decide +kernel
theorem dX4_dropPath_57 : decode cX4_dropPath 57 = .ok (.iconst 1, 1) := by decide +kernel
theorem dX4_dropPath_58 : decode cX4_dropPath 58 = .ok (.isub, 1) := by decide +kernel
theorem dX4_dropPath_59 : decode cX4_dropPath 59 = .ok (.putfield 18, 3) := by decide +kernel
theorem dX4_dropPath_62 : decode cX4_dropPath 62 = .ok (.aload_n 0, 1) := by decide +kernel
theorem dX4_dropPath_63 : decode cX4_dropPath 63 = .ok (.getfield 11, 3) := by decide +kernel
theorem dX4_dropPath_66 : decode cX4_dropPath 66 = .ok (.aload_n 0, 1) := by decide +kernel
theorem dX4_dropPath_67 : decode cX4_dropPath 67 = .ok (.getfield 18, 3) := by decide +kernel
theorem dX4_dropPath_70 : decode cX4_dropPath 70 = .ok (.aload_n 2, 1) := by decide +kernel
theorem dX4_dropPath_71 : decode cX4_dropPath 71 = .ok (.aastore, 1) := by decide +kernel
theorem dX4_dropPath_72 : decode cX4_dropPath 72 = .ok (.return_, 1) := by decide +kernel
theorem dX5_init_0 : decode cX5_init 0 = .ok (.aload_n 0, 1) := by decide +kernel
theorem dX5_init_1 : decode cX5_init 1 = .ok (.invokespecial 3, 3) := by decide +kernel
theorem dX5_init_4 : decode cX5_init 4 = .ok (.aload_n 0, 1) := by decide +kernel
theorem dX5_init_5 : decode cX5_init 5 = .ok (.sipush 341, 3) := by decide +kernel
theorem dX5_init_8 : decode cX5_init 8 = .ok (.newarray .byte, 2) := by decide +kernel
theorem dX5_init_10 : decode cX5_init 10 = .ok (.putfield 9, 3) := by decide +kernel
theorem dX5_init_13 : decode cX5_init 13 = .ok (.return_, 1) := by decide +kernel
theorem dX5_canShow_0 : decode cX5_canShow 0 = .ok (.iconst 0, 1) := by decide +kernel
theorem dX5_canShow_1 : decode cX5_canShow 1 = .ok (.istore_n 1, 1) := by decide +kernel
theorem dX5_canShow_2 : decode cX5_canShow 2 = .ok (.iload_n 1, 1) := by decide +kernel
theorem dX5_canShow_3 : decode cX5_canShow 3 = .ok (.aload_n 0, 1) := by decide +kernel
theorem dX5_canShow_4 : decode cX5_canShow 4 = .ok (.getfield 15, 3) := by decide +kernel
theorem dX5_canShow_7 : decode cX5_canShow 7 = .ok (.if_icmp .ge 72, 3) := by decide +kernel
theorem dX5_canShow_10 : decode cX5_canShow 10 = .ok (.iload_n 1, 1) := by decide +kernel
theorem dX5_canShow_11 : decode cX5_canShow 11 = .ok (.ifCond .le 7, 3) := by decide +kernel
theorem dX5_canShow_14 : decode cX5_canShow 14 = .ok (.iconst 1, 1) := by decide +kernel
theorem dX5_canShow_15 : decode cX5_canShow 15 = .ok (.goto 4, 3) := by decide +kernel
theorem dX5_canShow_18 : decode cX5_canShow 18 = .ok (.iconst 0, 1) := by decide +kernel
theorem dX5_canShow_19 : decode cX5_canShow 19 = .ok (.istore_n 2, 1) := by decide +kernel
theorem dX5_canShow_20 : decode cX5_canShow 20 = .ok (.iload_n 1, 1) := by decide +kernel
theorem dX5_canShow_21 : decode cX5_canShow 21 = .ok (.aload_n 0, 1) := by decide +kernel
theorem dX5_canShow_22 : decode cX5_canShow 22 = .ok (.getfield 15, 3) := by decide +kernel
theorem dX5_canShow_25 : decode cX5_canShow 25 = .ok (.iconst 1, 1) := by decide +kernel
theorem dX5_canShow_26 : decode cX5_canShow 26 = .ok (.isub, 1) := by decide +kernel
theorem dX5_canShow_27 : decode cX5_canShow 27 = .ok (.if_icmp .ge 7, 3) := by decide +kernel
theorem dX5_canShow_30 : decode cX5_canShow 30 = .ok (.iconst 1, 1) := by decide +kernel
theorem dX5_canShow_31 : decode cX5_canShow 31 = .ok (.goto 4, 3) := by decide +kernel
theorem dX5_canShow_34 : decode cX5_canShow 34 = .ok (.iconst 0, 1) := by decide +kernel
theorem dX5_canShow_35 : decode cX5_canShow 35 = .ok (.istore_n 3, 1) := by decide +kernel
theorem dX5_canShow_36 : decode cX5_canShow 36 = .ok (.aload_n 0, 1) := by decide +kernel
theorem dX5_canShow_37 : decode cX5_canShow 37 = .ok (.iload_n 1, 1) := by decide +kernel
theorem dX5_canShow_38 : decode cX5_canShow 38 = .ok (.iconst 0, 1) := by decide +kernel
theorem dX5_canShow_39 : decode cX5_canShow 39 = .ok (.invokestatic 21, 3) := by decide +kernel
theorem dX5_canShow_42 : decode cX5_canShow 42 = .ok (.ifCond .eq 29, 3) := by decide +kernel
theorem dX5_canShow_45 : decode cX5_canShow 45 = .ok (.iload_n 2, 1) := by decide +kernel
theorem dX5_canShow_46 : decode cX5_canShow 46 = .ok (.ifCond .eq 12, 3) := by decide +kernel
theorem dX5_canShow_49 : decode cX5_canShow 49 = .ok (.aload_n 0, 1) := by decide +kernel
theorem dX5_canShow_50 : decode cX5_canShow 50 = .ok (.iload_n 1, 1) := by decide +kernel
theorem dX5_canShow_51 : decode cX5_canShow 51 = .ok (.iconst 2, 1) := by decide +kernel
theorem dX5_canShow_52 : decode cX5_canShow 52 = .ok (.invokestatic 21, 3) := by decide +kernel
theorem dX5_canShow_55 : decode cX5_canShow 55 = .ok (.ifCond .eq 16, 3) := by decide +kernel
theorem dX5_canShow_58 : decode cX5_canShow 58 = .ok (.iload_n 3, 1) := by decide +kernel
theorem dX5_canShow_59 : decode cX5_canShow 59 = .ok (.ifCond .eq 14, 3) := by decide +kernel
theorem dX5_canShow_62 : decode cX5_canShow 62 = .ok (.aload_n 0, 1) := by decide +kernel
theorem dX5_canShow_63 : decode cX5_canShow 63 = .ok (.iload_n 1, 1) := by decide +kernel
theorem dX5_canShow_64 : decode cX5_canShow 64 = .ok (.iconst 4, 1) := by decide +kernel
theorem dX5_canShow_65 : decode cX5_canShow 65 = .ok (.invokestatic 21, 3) := by decide +kernel
theorem dX5_canShow_68 : decode cX5_canShow 68 = .ok (.ifCond .ne 5, 3) := by decide +kernel
theorem dX5_canShow_71 : decode cX5_canShow 71 = .ok (.iconst 0, 1) := by decide +kernel
theorem dX5_canShow_72 : decode cX5_canShow 72 = .ok (.ireturn, 1) := by decide +kernel
theorem dX5_canShow_73 : decode cX5_canShow 73 = .ok (.iinc 1 1, 3) := by decide +kernel
theorem dX5_canShow_76 : decode cX5_canShow 76 = .ok (.goto (-74), 3) := by decide +kernel
theorem dX5_canShow_79 : decode cX5_canShow 79 = .ok (.aload_n 0, 1) := by decide +kernel
theorem dX5_canShow_80 : decode cX5_canShow 80 = .ok (.getfield 25, 3) := by decide +kernel
theorem dX5_canShow_83 : decode cX5_canShow 83 = .ok (.ifCond .eq 16, 3) := by decide +kernel
theorem dX5_canShow_86 : decode cX5_canShow 86 = .ok (.aload_n 0, 1) := by decide +kernel
theorem dX5_canShow_87 : decode cX5_canShow 87 = .ok (.aload_n 0, 1) := by decide +kernel
theorem dX5_canShow_88 : decode cX5_canShow 88 = .ok (.getfield 15, 3) := by decide +kernel
theorem dX5_canShow_91 : decode cX5_canShow 91 = .ok (.iconst 1, 1) := by decide +kernel
theorem dX5_canShow_92 : decode cX5_canShow 92 = .ok (.isub, 1) := by decide +kernel
theorem dX5_canShow_93 : decode cX5_canShow 93 = .ok (.invokevirtual 29, 3) := by decide +kernel
theorem dX5_canShow_96 : decode cX5_canShow 96 = .ok (.ifCond .eq 7, 3) := by decide +kernel
theorem dX5_canShow_99 : decode cX5_canShow 99 = .ok (.iconst 1, 1) := by decide +kernel
theorem dX5_canShow_100 : decode cX5_canShow 100 = .ok (.goto 4, 3) := by decide +kernel
theorem dX5_canShow_103 : decode cX5_canShow 103 = .ok (.iconst 0, 1) := by decide +kernel
theorem dX5_canShow_104 : decode cX5_canShow 104 = .ok (.ireturn, 1) := by decide +kernel
theorem dX5_isWhole_0 : decode cX5_isWhole 0 = .ok (.aload_n 0, 1) := by decide +kernel
theorem dX5_isWhole_1 : decode cX5_isWhole 1 = .ok (.iload_n 1, 1) := by decide +kernel
theorem dX5_isWhole_2 : decode cX5_isWhole 2 = .ok (.iload_n 2, 1) := by decide +kernel
theorem dX5_isWhole_3 : decode cX5_isWhole 3 = .ok (.invokevirtual 33, 3) := by decide +kernel
theorem dX5_isWhole_6 : decode cX5_isWhole 6 = .ok (.ldc 37, 2) := by decide +kernel
theorem dX5_isWhole_8 : decode cX5_isWhole 8 = .ok (.irem, 1) := by decide +kernel
theorem dX5_isWhole_9 : decode cX5_isWhole 9 = .ok (.ifCond .ne 21, 3) := by decide +kernel
theorem dX5_isWhole_12 : decode cX5_isWhole 12 = .ok (.aload_n 0, 1) := by decide +kernel
theorem dX5_isWhole_13 : decode cX5_isWhole 13 = .ok (.iload_n 1, 1) := by decide +kernel
theorem dX5_isWhole_14 : decode cX5_isWhole 14 = .ok (.iload_n 2, 1) := by decide +kernel
theorem dX5_isWhole_15 : decode cX5_isWhole 15 = .ok (.iconst 1, 1) := by decide +kernel
theorem dX5_isWhole_16 : decode cX5_isWhole 16 = .ok (.iadd, 1) := by decide +kernel
theorem dX5_isWhole_17 : decode cX5_isWhole 17 = .ok (.invokevirtual 33, 3) := by decide +kernel
theorem dX5_isWhole_20 : decode cX5_isWhole 20 = .ok (.ldc 37, 2) := by decide +kernel
theorem dX5_isWhole_22 : decode cX5_isWhole 22 = .ok (.irem, 1) := by decide +kernel
theorem dX5_isWhole_23 : decode cX5_isWhole 23 = .ok (.ifCond .ne 7, 3) := by decide +kernel
theorem dX5_isWhole_26 : decode cX5_isWhole 26 = .ok (.iconst 1, 1) := by decide +kernel
theorem dX5_isWhole_27 : decode cX5_isWhole 27 = .ok (.goto 4, 3) := by decide +kernel
theorem dX5_isWhole_30 : decode cX5_isWhole 30 = .ok (.iconst 0, 1) := by decide +kernel
theorem dX5_isWhole_31 : decode cX5_isWhole 31 = .ok (.ireturn, 1) := by decide +kernel
theorem dX5_show_0 : decode cX5_show 0 = .ok (.aload_n 0, 1) := by decide +kernel
theorem dX5_show_1 : decode cX5_show 1 = .ok (.iconst 0, 1) := by decide +kernel
theorem dX5_show_2 : decode cX5_show 2 = .ok (.putfield 38, 3) := by decide +kernel
theorem dX5_show_5 : decode cX5_show 5 = .ok (.aload_n 0, 1) := by decide +kernel
theorem dX5_show_6 : decode cX5_show 6 = .ok (.bipush 77, 2) := by decide +kernel
theorem dX5_show_8 : decode cX5_show 8 = .ok (.invokevirtual 41, 3) := by decide +kernel
theorem dX5_show_11 : decode cX5_show 11 = .ok (.aload_n 0, 1) := by decide +kernel
theorem dX5_show_12 : decode cX5_show 12 = .ok (.aload_n 1, 1) := by decide +kernel
theorem dX5_show_13 : decode cX5_show 13 = .ok (.iconst 0, 1) := by decide +kernel
theorem dX5_show_14 : decode cX5_show 14 = .ok (.iconst 0, 1) := by decide +kernel
theorem dX5_show_15 : decode cX5_show 15 = .ok (.invokevirtual 45, 3) := by decide +kernel
theorem dX5_show_18 : decode cX5_show 18 = .ok (.iconst 0, 1) := by decide +kernel
theorem dX5_show_19 : decode cX5_show 19 = .ok (.istore_n 2, 1) := by decide +kernel
theorem dX5_show_20 : decode cX5_show 20 = .ok (.iload_n 2, 1) := by decide +kernel
theorem dX5_show_21 : decode cX5_show 21 = .ok (.aload_n 1, 1) := by decide +kernel
theorem dX5_show_22 : decode cX5_show 22 = .ok (.getfield 15, 3) := by decide +kernel
theorem dX5_show_25 : decode cX5_show 25 = .ok (.iconst 1, 1) := by decide +kernel
theorem dX5_show_26 : decode cX5_show 26 = .ok (.isub, 1) := by decide +kernel
theorem dX5_show_27 : decode cX5_show 27 = .ok (.if_icmp .ge 65, 3) := by decide +kernel
theorem dX5_show_30 : decode cX5_show 30 = .ok (.aload_n 1, 1) := by decide +kernel
theorem dX5_show_31 : decode cX5_show 31 = .ok (.iload_n 2, 1) := by decide +kernel
theorem dX5_show_32 : decode cX5_show 32 = .ok (.invokevirtual 29, 3) := by decide +kernel
theorem dX5_show_35 : decode cX5_show 35 = .ok (.ifCond .eq 12, 3) := by decide +kernel
theorem dX5_show_38 : decode cX5_show 38 = .ok (.aload_n 0, 1) := by decide +kernel
theorem dX5_show_39 : decode cX5_show 39 = .ok (.bipush 76, 2) := by decide +kernel
theorem dX5_show_41 : decode cX5_show 41 = .ok (.invokevirtual 41, 3) := by decide +kernel
theorem dX5_show_44 : decode cX5_show 44 = .ok (.goto 35, 3) := by decide +kernel
theorem dX5_show_47 : decode cX5_show 47 = .ok (.aload_n 0, 1) := by decide +kernel
theorem dX5_show_48 : decode cX5_show 48 = .ok (.bipush 67, 2) := by decide +kernel
theorem dX5_show_50 : decode cX5_show 50 = .ok (.invokevirtual 41, 3) := by decide +kernel
theorem dX5_show_53 : decode cX5_show 53 = .ok (.aload_n 0, 1) := by decide +kernel
theorem dX5_show_54 : decode cX5_show 54 = .ok (.aload_n 1, 1) := by decide +kernel
theorem dX5_show_55 : decode cX5_show 55 = .ok (.iload_n 2, 1) := by decide +kernel
theorem dX5_show_56 : decode cX5_show 56 = .ok (.iconst 1, 1) := by decide +kernel
theorem dX5_show_57 : decode cX5_show 57 = .ok (.invokevirtual 45, 3) := by decide +kernel
theorem dX5_show_60 : decode cX5_show 60 = .ok (.aload_n 0, 1) := by decide +kernel
theorem dX5_show_61 : decode cX5_show 61 = .ok (.bipush 32, 2) := by decide +kernel
theorem dX5_show_63 : decode cX5_show 63 = .ok (.invokevirtual 41, 3) := by decide +kernel
theorem dX5_show_66 : decode cX5_show 66 = .ok (.aload_n 0, 1) := by decide +kernel
theorem dX5_show_67 : decode cX5_show 67 = .ok (.aload_n 1, 1) := by decide +kernel
theorem dX5_show_68 : decode cX5_show 68 = .ok (.iload_n 2, 1) := by decide +kernel
theorem dX5_show_69 : decode cX5_show 69 = .ok (.iconst 2, 1) := by decide +kernel
theorem dX5_show_70 : decode cX5_show 70 = .ok (.invokevirtual 45, 3) := by decide +kernel
theorem dX5_show_73 : decode cX5_show 73 = .ok (.aload_n 0, 1) := by decide +kernel
theorem dX5_show_74 : decode cX5_show 74 = .ok (.bipush 32, 2) := by decide +kernel
theorem dX5_show_76 : decode cX5_show 76 = .ok (.invokevirtual 41, 3) := by decide +kernel
theorem dX5_show_79 : decode cX5_show 79 = .ok (.aload_n 0, 1) := by decide +kernel
theorem dX5_show_80 : decode cX5_show 80 = .ok (.aload_n 1, 1) := by decide +kernel
theorem dX5_show_81 : decode cX5_show 81 = .ok (.iload_n 2, 1) := by decide +kernel
theorem dX5_show_82 : decode cX5_show 82 = .ok (.iconst 3, 1) := by decide +kernel
theorem dX5_show_83 : decode cX5_show 83 = .ok (.invokevirtual 45, 3) := by decide +kernel
theorem dX5_show_86 : decode cX5_show 86 = .ok (.iinc 2 1, 3) := by decide +kernel
theorem dX5_show_89 : decode cX5_show 89 = .ok (.goto (-69), 3) := by decide +kernel
theorem dX5_show_92 : decode cX5_show 92 = .ok (.aload_n 1, 1) := by decide +kernel
theorem dX5_show_93 : decode cX5_show 93 = .ok (.getfield 25, 3) := by decide +kernel
theorem dX5_show_96 : decode cX5_show 96 = .ok (.ifCond .eq 9, 3) := by decide +kernel
theorem dX5_show_99 : decode cX5_show 99 = .ok (.aload_n 0, 1) := by decide +kernel
theorem dX5_show_100 : decode cX5_show 100 = .ok (.bipush 90, 2) := by decide +kernel
theorem dX5_show_102 : decode cX5_show 102 = .ok (.invokevirtual 41, 3) := by decide +kernel
theorem dX5_show_105 : decode cX5_show 105 = .ok (.return_, 1) := by decide +kernel
theorem dX5_putPoint_0 : decode cX5_putPoint 0 = .ok (.aload_n 0, 1) := by decide +kernel
theorem dX5_putPoint_1 : decode cX5_putPoint 1 = .ok (.aload_n 1, 1) := by decide +kernel
theorem dX5_putPoint_2 : decode cX5_putPoint 2 = .ok (.iload_n 2, 1) := by decide +kernel
theorem dX5_putPoint_3 : decode cX5_putPoint 3 = .ok (.iload_n 3, 1) := by decide +kernel
theorem dX5_putPoint_4 : decode cX5_putPoint 4 = .ok (.iconst 0, 1) := by decide +kernel
theorem dX5_putPoint_5 : decode cX5_putPoint 5 = .ok (.invokevirtual 49, 3) := by decide +kernel
theorem dX5_putPoint_8 : decode cX5_putPoint 8 = .ok (.ldc 37, 2) := by decide +kernel
theorem dX5_putPoint_10 : decode cX5_putPoint 10 = .ok (.idiv, 1) := by decide +kernel
theorem dX5_putPoint_11 : decode cX5_putPoint 11 = .ok (.invokevirtual 53, 3) := by decide +kernel
theorem dX5_putPoint_14 : decode cX5_putPoint 14 = .ok (.aload_n 0, 1) := by decide +kernel
theorem dX5_putPoint_15 : decode cX5_putPoint 15 = .ok (.bipush 32, 2) := by decide +kernel
theorem dX5_putPoint_17 : decode cX5_putPoint 17 = .ok (.invokevirtual 41, 3) := by decide +kernel
theorem dX5_putPoint_20 : decode cX5_putPoint 20 = .ok (.aload_n 0, 1) := by decide +kernel
theorem dX5_putPoint_21 : decode cX5_putPoint 21 = .ok (.aload_n 1, 1) := by decide +kernel
theorem dX5_putPoint_22 : decode cX5_putPoint 22 = .ok (.iload_n 2, 1) := by decide +kernel
theorem dX5_putPoint_23 : decode cX5_putPoint 23 = .ok (.iload_n 3, 1) := by decide +kernel
theorem dX5_putPoint_24 : decode cX5_putPoint 24 = .ok (.iconst 1, 1) := by decide +kernel
theorem dX5_putPoint_25 : decode cX5_putPoint 25 = .ok (.invokevirtual 49, 3) := by decide +kernel
theorem dX5_putPoint_28 : decode cX5_putPoint 28 = .ok (.ldc 37, 2) := by decide +kernel
theorem dX5_putPoint_30 : decode cX5_putPoint 30 = .ok (.idiv, 1) := by decide +kernel
theorem dX5_putPoint_31 : decode cX5_putPoint 31 = .ok (.invokevirtual 53, 3) := by decide +kernel
theorem dX5_putPoint_34 : decode cX5_putPoint 34 = .ok (.return_, 1) := by decide +kernel
theorem dX5_putNumber_0 : decode cX5_putNumber 0 = .ok (.iload_n 1, 1) := by decide +kernel
theorem dX5_putNumber_1 : decode cX5_putNumber 1 = .ok (.invokestatic 56, 3) := by decide +kernel
theorem dX5_putNumber_4 : decode cX5_putNumber 4 = .ok (.istore_n 2, 1) := by decide +kernel
theorem dX5_putNumber_5 : decode cX5_putNumber 5 = .ok (.iload_n 1, 1) := by decide +kernel
theorem dX5_putNumber_6 : decode cX5_putNumber 6 = .ok (.ifCond .ge 9, 3) := by decide +kernel
theorem dX5_putNumber_9 : decode cX5_putNumber 9 = .ok (.aload_n 0, 1) := by decide +kernel
theorem dX5_putNumber_10 : decode cX5_putNumber 10 = .ok (.bipush 45, 2) := by decide +kernel
theorem dX5_putNumber_12 : decode cX5_putNumber 12 = .ok (.invokevirtual 41, 3) := by decide +kernel
theorem dX5_putNumber_15 : decode cX5_putNumber 15 = .ok (.iload_n 2, 1) := by decide +kernel
theorem dX5_putNumber_16 : decode cX5_putNumber 16 = .ok (.bipush 100, 2) := by decide +kernel
theorem dX5_putNumber_18 : decode cX5_putNumber 18 = .ok (.if_icmp .lt 14, 3) := by decide +kernel
theorem dX5_putNumber_21 : decode cX5_putNumber 21 = .ok (.aload_n 0, 1) := by decide +kernel
theorem dX5_putNumber_22 : decode cX5_putNumber 22 = .ok (.bipush 48, 2) := by decide +kernel
theorem dX5_putNumber_24 : decode cX5_putNumber 24 = .ok (.iload_n 2, 1) := by decide +kernel
theorem dX5_putNumber_25 : decode cX5_putNumber 25 = .ok (.bipush 100, 2) := by decide +kernel
theorem dX5_putNumber_27 : decode cX5_putNumber 27 = .ok (.idiv, 1) := by decide +kernel
theorem dX5_putNumber_28 : decode cX5_putNumber 28 = .ok (.iadd, 1) := by decide +kernel
theorem dX5_putNumber_29 : decode cX5_putNumber 29 = .ok (.invokevirtual 41, 3) := by decide +kernel
theorem dX5_putNumber_32 : decode cX5_putNumber 32 = .ok (.iload_n 2, 1) := by decide +kernel
theorem dX5_putNumber_33 : decode cX5_putNumber 33 = .ok (.bipush 10, 2) := by decide +kernel
theorem dX5_putNumber_35 : decode cX5_putNumber 35 = .ok (.if_icmp .lt 17, 3) := by decide +kernel
theorem dX5_putNumber_38 : decode cX5_putNumber 38 = .ok (.aload_n 0, 1) := by decide +kernel
theorem dX5_putNumber_39 : decode cX5_putNumber 39 = .ok (.bipush 48, 2) := by decide +kernel
theorem dX5_putNumber_41 : decode cX5_putNumber 41 = .ok (.iload_n 2, 1) := by decide +kernel
theorem dX5_putNumber_42 : decode cX5_putNumber 42 = .ok (.bipush 10, 2) := by decide +kernel
theorem dX5_putNumber_44 : decode cX5_putNumber 44 = .ok (.idiv, 1) := by decide +kernel
theorem dX5_putNumber_45 : decode cX5_putNumber 45 = .ok (.bipush 10, 2) := by decide +kernel
theorem dX5_putNumber_47 : decode cX5_putNumber 47 = .ok (.irem, 1) := by decide +kernel
theorem dX5_putNumber_48 : decode cX5_putNumber 48 = .ok (.iadd, 1) := by decide +kernel
theorem dX5_putNumber_49 : decode cX5_putNumber 49 = .ok (.invokevirtual 41, 3) := by decide +kernel
theorem dX5_putNumber_52 : decode cX5_putNumber 52 = .ok (.aload_n 0, 1) := by decide +kernel
theorem dX5_putNumber_53 : decode cX5_putNumber 53 = .ok (.bipush 48, 2) := by decide +kernel
theorem dX5_putNumber_55 : decode cX5_putNumber 55 = .ok (.iload_n 2, 1) := by decide +kernel
theorem dX5_putNumber_56 : decode cX5_putNumber 56 = .ok (.bipush 10, 2) := by decide +kernel
theorem dX5_putNumber_58 : decode cX5_putNumber 58 = .ok (.irem, 1) := by decide +kernel
theorem dX5_putNumber_59 : decode cX5_putNumber 59 = .ok (.iadd, 1) := by decide +kernel
theorem dX5_putNumber_60 : decode cX5_putNumber 60 = .ok (.invokevirtual 41, 3) := by decide +kernel
theorem dX5_putNumber_63 : decode cX5_putNumber 63 = .ok (.return_, 1) := by decide +kernel
theorem dX5_putByte_0 : decode cX5_putByte 0 = .ok (.aload_n 0, 1) := by decide +kernel
theorem dX5_putByte_1 : decode cX5_putByte 1 = .ok (.getfield 38, 3) := by decide +kernel
theorem dX5_putByte_4 : decode cX5_putByte 4 = .ok (.sipush 341, 3) := by decide +kernel
theorem dX5_putByte_7 : decode cX5_putByte 7 = .ok (.if_icmp .ge 24, 3) := by decide +kernel
theorem dX5_putByte_10 : decode cX5_putByte 10 = .ok (.aload_n 0, 1) := by decide +kernel
theorem dX5_putByte_11 : decode cX5_putByte 11 = .ok (.getfield 9, 3) := by decide +kernel
theorem dX5_putByte_14 : decode cX5_putByte 14 = .ok (.aload_n 0, 1) := by decide +kernel
theorem dX5_putByte_15 : decode cX5_putByte 15 = .ok (.getfield 38, 3) := by decide +kernel
theorem dX5_putByte_18 : decode cX5_putByte 18 = .ok (.iload_n 1, 1) := by decide +kernel
theorem dX5_putByte_19 : decode cX5_putByte 19 = .ok (.i2b, 1) := by decide +kernel
theorem dX5_putByte_20 : decode cX5_putByte 20 = .ok (.bastore, 1) := by decide +kernel
theorem dX5_putByte_21 : decode cX5_putByte 21 = .ok (.aload_n 0, 1) := by decide +kernel
theorem dX5_putByte_22 : decode cX5_putByte 22 = .ok (.dup, 1) := by decide +kernel
theorem dX5_putByte_23 : decode cX5_putByte 23 = .ok (.getfield 38, 3) := by decide +kernel
theorem dX5_putByte_26 : decode cX5_putByte 26 = .ok (.iconst 1, 1) := by decide +kernel
theorem dX5_putByte_27 : decode cX5_putByte 27 = .ok (.iadd, 1) := by decide +kernel
theorem dX5_putByte_28 : decode cX5_putByte 28 = .ok (.putfield 38, 3) := by decide +kernel
theorem dX5_putByte_31 : decode cX5_putByte 31 = .ok (.return_, 1) := by decide +kernel
theorem dX6_init_0 : decode cX6_init 0 = .ok (.aload_n 0, 1) := by decide +kernel
theorem dX6_init_1 : decode cX6_init 1 = .ok (.invokespecial 3, 3) := by decide +kernel
theorem dX6_init_4 : decode cX6_init 4 = .ok (.aload_n 0, 1) := by decide +kernel
theorem dX6_init_5 : decode cX6_init 5 = .ok (.bipush 120, 2) := by decide +kernel
theorem dX6_init_7 : decode cX6_init 7 = .ok (.newarray .byte, 2) := by decide +kernel
theorem dX6_init_9 : decode cX6_init 9 = .ok (.putfield 9, 3) := by decide +kernel
theorem dX6_init_12 : decode cX6_init 12 = .ok (.aload_n 0, 1) := by decide +kernel
theorem dX6_init_13 : decode cX6_init 13 = .ok (.new 15, 3) := by decide +kernel
theorem dX6_init_16 : decode cX6_init 16 = .ok (.dup, 1) := by decide +kernel
theorem dX6_init_17 : decode cX6_init 17 = .ok (.invokespecial 17, 3) := by decide +kernel
theorem dX6_init_20 : decode cX6_init 20 = .ok (.putfield 18, 3) := by decide +kernel
theorem dX6_init_23 : decode cX6_init 23 = .ok (.return_, 1) := by decide +kernel
theorem dX6_addByte_0 : decode cX6_addByte 0 = .ok (.aload_n 0, 1) := by decide +kernel
theorem dX6_addByte_1 : decode cX6_addByte 1 = .ok (.getfield 22, 3) := by decide +kernel
theorem dX6_addByte_4 : decode cX6_addByte 4 = .ok (.bipush 120, 2) := by decide +kernel
theorem dX6_addByte_6 : decode cX6_addByte 6 = .ok (.if_icmp .ge 24, 3) := by decide +kernel
theorem dX6_addByte_9 : decode cX6_addByte 9 = .ok (.aload_n 0, 1) := by decide +kernel
theorem dX6_addByte_10 : decode cX6_addByte 10 = .ok (.getfield 9, 3) := by decide +kernel
theorem dX6_addByte_13 : decode cX6_addByte 13 = .ok (.aload_n 0, 1) := by decide +kernel
theorem dX6_addByte_14 : decode cX6_addByte 14 = .ok (.getfield 22, 3) := by decide +kernel
theorem dX6_addByte_17 : decode cX6_addByte 17 = .ok (.iload_n 1, 1) := by decide +kernel
theorem dX6_addByte_18 : decode cX6_addByte 18 = .ok (.i2b, 1) := by decide +kernel
theorem dX6_addByte_19 : decode cX6_addByte 19 = .ok (.bastore, 1) := by decide +kernel
theorem dX6_addByte_20 : decode cX6_addByte 20 = .ok (.aload_n 0, 1) := by decide +kernel
theorem dX6_addByte_21 : decode cX6_addByte 21 = .ok (.dup, 1) := by decide +kernel
theorem dX6_addByte_22 : decode cX6_addByte 22 = .ok (.getfield 22, 3) := by decide +kernel
theorem dX6_addByte_25 : decode cX6_addByte 25 = .ok (.iconst 1, 1) := by decide +kernel
theorem dX6_addByte_26 : decode cX6_addByte 26 = .ok (.iadd, 1) := by decide +kernel
theorem dX6_addByte_27 : decode cX6_addByte 27 = .ok (.putfield 22, 3) := by decide +kernel
theorem dX6_addByte_30 : decode cX6_addByte 30 = .ok (.return_, 1) := by decide +kernel
theorem dX6_parse_0 : decode cX6_parse 0 = .ok (.aload_n 0, 1) := by decide +kernel
theorem dX6_parse_1 : decode cX6_parse 1 = .ok (.iconst 0, 1) := by decide +kernel
theorem dX6_parse_2 : decode cX6_parse 2 = .ok (.putfield 26, 3) := by decide +kernel
theorem dX6_parse_5 : decode cX6_parse 5 = .ok (.aload_n 0, 1) := by decide +kernel
theorem dX6_parse_6 : decode cX6_parse 6 = .ok (.ldc 29, 2) := by decide +kernel
theorem dX6_parse_8 : decode cX6_parse 8 = .ok (.putfield 30, 3) := by decide +kernel
theorem dX6_parse_11 : decode cX6_parse 11 = .ok (.aload_n 0, 1) := by decide +kernel
theorem dX6_parse_12 : decode cX6_parse 12 = .ok (.getfield 18, 3) := by decide +kernel
theorem dX6_parse_15 : decode cX6_parse 15 = .ok (.invokevirtual 33, 3) := by decide +kernel
theorem dX6_parse_18 : decode cX6_parse 18 = .ok (.aload_n 0, 1) := by decide +kernel
theorem dX6_parse_19 : decode cX6_parse 19 = .ok (.bipush 77, 2) := by decide +kernel
theorem dX6_parse_21 : decode cX6_parse 21 = .ok (.invokevirtual 36, 3) := by decide +kernel
theorem dX6_parse_24 : decode cX6_parse 24 = .ok (.aload_n 0, 1) := by decide +kernel
theorem dX6_parse_25 : decode cX6_parse 25 = .ok (.invokevirtual 40, 3) := by decide +kernel
theorem dX6_parse_28 : decode cX6_parse 28 = .ok (.iconst 0, 1) := by decide +kernel
theorem dX6_parse_29 : decode cX6_parse 29 = .ok (.istore_n 1, 1) := by decide +kernel
theorem dX6_parse_30 : decode cX6_parse 30 = .ok (.iload_n 1, 1) := by decide +kernel
theorem dX6_parse_31 : decode cX6_parse 31 = .ok (.bipush 120, 2) := by decide +kernel
theorem dX6_parse_33 : decode cX6_parse 33 = .ok (.if_icmp .ge 33, 3) := by decide +kernel
theorem dX6_parse_36 : decode cX6_parse 36 = .ok (.aload_n 0, 1) := by decide +kernel
theorem dX6_parse_37 : decode cX6_parse 37 = .ok (.getfield 30, 3) := by decide +kernel
theorem dX6_parse_40 : decode cX6_parse 40 = .ok (.ldc 29, 2) := by decide +kernel
theorem dX6_parse_42 : decode cX6_parse 42 = .ok (.if_icmp .ne 24, 3) := by decide +kernel
theorem dX6_parse_45 : decode cX6_parse 45 = .ok (.aload_n 0, 1) := by decide +kernel
theorem dX6_parse_46 : decode cX6_parse 46 = .ok (.getfield 26, 3) := by decide +kernel
theorem dX6_parse_49 : decode cX6_parse 49 = .ok (.aload_n 0, 1) := by decide +kernel
theorem dX6_parse_50 : decode cX6_parse 50 = .ok (.getfield 22, 3) := by decide +kernel
theorem dX6_parse_53 : decode cX6_parse 53 = .ok (.if_icmp .ge 13, 3) := by decide +kernel
theorem dX6_parse_56 : decode cX6_parse 56 = .ok (.aload_n 0, 1) := by decide +kernel
theorem dX6_parse_57 : decode cX6_parse 57 = .ok (.invokevirtual 43, 3) := by decide +kernel
theorem dX6_parse_60 : decode cX6_parse 60 = .ok (.iinc 1 1, 3) := by decide +kernel
theorem dX6_parse_63 : decode cX6_parse 63 = .ok (.goto (-33), 3) := by decide +kernel
theorem dX6_parse_66 : decode cX6_parse 66 = .ok (.return_, 1) := by decide +kernel
theorem dX6_nextByte_0 : decode cX6_nextByte 0 = .ok (.aload_n 0, 1) := by decide +kernel
theorem dX6_nextByte_1 : decode cX6_nextByte 1 = .ok (.getfield 26, 3) := by decide +kernel
theorem dX6_nextByte_4 : decode cX6_nextByte 4 = .ok (.ifCond .lt 35, 3) := by decide +kernel
theorem dX6_nextByte_7 : decode cX6_nextByte 7 = .ok (.aload_n 0, 1) := by decide +kernel
theorem dX6_nextByte_8 : decode cX6_nextByte 8 = .ok (.getfield 26, 3) := by decide +kernel
theorem dX6_nextByte_11 : decode cX6_nextByte 11 = .ok (.aload_n 0, 1) := by decide +kernel
theorem dX6_nextByte_12 : decode cX6_nextByte 12 = .ok (.getfield 22, 3) := by decide +kernel
theorem dX6_nextByte_15 : decode cX6_nextByte 15 = .ok (.if_icmp .ge 24, 3) := by decide +kernel
theorem dX6_nextByte_18 : decode cX6_nextByte 18 = .ok (.aload_n 0, 1) := by decide +kernel
theorem dX6_nextByte_19 : decode cX6_nextByte 19 = .ok (.getfield 26, 3) := by decide +kernel
theorem dX6_nextByte_22 : decode cX6_nextByte 22 = .ok (.bipush 120, 2) := by decide +kernel
theorem dX6_nextByte_24 : decode cX6_nextByte 24 = .ok (.if_icmp .ge 15, 3) := by decide +kernel
theorem dX6_nextByte_27 : decode cX6_nextByte 27 = .ok (.aload_n 0, 1) := by decide +kernel
theorem dX6_nextByte_28 : decode cX6_nextByte 28 = .ok (.getfield 9, 3) := by decide +kernel
theorem dX6_nextByte_31 : decode cX6_nextByte 31 = .ok (.aload_n 0, 1) := by decide +kernel
theorem dX6_nextByte_32 : decode cX6_nextByte 32 = .ok (.getfield 26, 3) := by decide +kernel
theorem dX6_nextByte_35 : decode cX6_nextByte 35 = .ok (.baload, 1) := by decide +kernel
theorem dX6_nextByte_36 : decode cX6_nextByte 36 = .ok (.goto 4, 3) := by decide +kernel
theorem dX6_nextByte_39 : decode cX6_nextByte 39 = .ok (.iconst (-1), 1) := by decide +kernel
theorem dX6_nextByte_40 : decode cX6_nextByte 40 = .ok (.ireturn, 1) := by decide +kernel
theorem dX6_stopAt_0 : decode cX6_stopAt 0 = .ok (.aload_n 0, 1) := by decide +kernel
theorem dX6_stopAt_1 : decode cX6_stopAt 1 = .ok (.getfield 30, 3) := by decide +kernel
theorem dX6_stopAt_4 : decode cX6_stopAt 4 = .ok (.ldc 29, 2) := by decide +kernel
theorem dX6_stopAt_6 : decode cX6_stopAt 6 = .ok (.if_icmp .ne 8, 3) := by decide +kernel
theorem dX6_stopAt_9 : decode cX6_stopAt 9 = .ok (.aload_n 0, 1) := by decide +kernel
theorem dX6_stopAt_10 : decode cX6_stopAt 10 = .ok (.iload_n 1, 1) := by decide +kernel
theorem dX6_stopAt_11 : decode cX6_stopAt 11 = .ok (.putfield 30, 3) := by decide +kernel
theorem dX6_stopAt_14 : decode cX6_stopAt 14 = .ok (.return_, 1) := by decide +kernel
theorem dX6_takeByte_0 : decode cX6_takeByte 0 = .ok (.aload_n 0, 1) := by decide +kernel
theorem dX6_takeByte_1 : decode cX6_takeByte 1 = .ok (.invokevirtual 46, 3) := by decide +kernel
theorem dX6_takeByte_4 : decode cX6_takeByte 4 = .ok (.iload_n 1, 1) := by decide +kernel
theorem dX6_takeByte_5 : decode cX6_takeByte 5 = .ok (.if_icmp .ne 16, 3) := by decide +kernel
theorem dX6_takeByte_8 : decode cX6_takeByte 8 = .ok (.aload_n 0, 1) := by decide +kernel
theorem dX6_takeByte_9 : decode cX6_takeByte 9 = .ok (.dup, 1) := by decide +kernel
theorem dX6_takeByte_10 : decode cX6_takeByte 10 = .ok (.getfield 26, 3) := by decide +kernel
theorem dX6_takeByte_13 : decode cX6_takeByte 13 = .ok (.iconst 1, 1) := by decide +kernel
theorem dX6_takeByte_14 : decode cX6_takeByte 14 = .ok (.iadd, 1) := by decide +kernel
theorem dX6_takeByte_15 : decode cX6_takeByte 15 = .ok (.putfield 26, 3) := by decide +kernel
theorem dX6_takeByte_18 : decode cX6_takeByte 18 = .ok (.goto 11, 3) := by decide +kernel
theorem dX6_takeByte_21 : decode cX6_takeByte 21 = .ok (.aload_n 0, 1) := by decide +kernel
theorem dX6_takeByte_22 : decode cX6_takeByte 22 = .ok (.aload_n 0, 1) := by decide +kernel
theorem dX6_takeByte_23 : decode cX6_takeByte 23 = .ok (.getfield 26, 3) := by decide +kernel
theorem dX6_takeByte_26 : decode cX6_takeByte 26 = .ok (.invokevirtual 50, 3) := by decide +kernel
theorem dX6_takeByte_29 : decode cX6_takeByte 29 = .ok (.return_, 1) := by decide +kernel
theorem dX6_takeSegment_0 : decode cX6_takeSegment 0 = .ok (.aload_n 0, 1) := by decide +kernel
theorem dX6_takeSegment_1 : decode cX6_takeSegment 1 = .ok (.invokevirtual 46, 3) := by decide +kernel
theorem dX6_takeSegment_4 : decode cX6_takeSegment 4 = .ok (.istore_n 1, 1) := by decide +kernel
theorem dX6_takeSegment_5 : decode cX6_takeSegment 5 = .ok (.aload_n 0, 1) := by decide +kernel
theorem dX6_takeSegment_6 : decode cX6_takeSegment 6 = .ok (.getfield 18, 3) := by decide +kernel
theorem dX6_takeSegment_9 : decode cX6_takeSegment 9 = .ok (.getfield 53, 3) := by decide +kernel
theorem dX6_takeSegment_12 : decode cX6_takeSegment 12 = .ok (.bipush 12, 2) := by decide +kernel
theorem dX6_takeSegment_14 : decode cX6_takeSegment 14 = .ok (.if_icmp .lt 7, 3) := by decide +kernel
theorem dX6_takeSegment_17 : decode cX6_takeSegment 17 = .ok (.iconst 1, 1) := by decide +kernel
theorem dX6_takeSegment_18 : decode cX6_takeSegment 18 = .ok (.goto 4, 3) := by decide +kernel
theorem dX6_takeSegment_21 : decode cX6_takeSegment 21 = .ok (.iconst 0, 1) := by decide +kernel
theorem dX6_takeSegment_22 : decode cX6_takeSegment 22 = .ok (.istore_n 2, 1) := by decide +kernel
theorem dX6_takeSegment_23 : decode cX6_takeSegment 23 = .ok (.aload_n 0, 1) := by decide +kernel
theorem dX6_takeSegment_24 : decode cX6_takeSegment 24 = .ok (.getfield 18, 3) := by decide +kernel
theorem dX6_takeSegment_27 : decode cX6_takeSegment 27 = .ok (.getfield 56, 3) := by decide +kernel
theorem dX6_takeSegment_30 : decode cX6_takeSegment 30 = .ok (.ifCond .eq 14, 3) := by decide +kernel
theorem dX6_takeSegment_33 : decode cX6_takeSegment 33 = .ok (.aload_n 0, 1) := by decide +kernel
theorem dX6_takeSegment_34 : decode cX6_takeSegment 34 = .ok (.aload_n 0, 1) := by decide +kernel
theorem dX6_takeSegment_35 : decode cX6_takeSegment 35 = .ok (.getfield 26, 3) := by decide +kernel
theorem dX6_takeSegment_38 : decode cX6_takeSegment 38 = .ok (.invokevirtual 50, 3) := by decide +kernel
theorem dX6_takeSegment_41 : decode cX6_takeSegment 41 = .ok (.goto 103, 3) := by decide +kernel
theorem dX6_takeSegment_44 : decode cX6_takeSegment 44 = .ok (.iload_n 1, 1) := by decide +kernel
theorem dX6_takeSegment_45 : decode cX6_takeSegment 45 = .ok (.bipush 76, 2) := by decide +kernel
theorem dX6_takeSegment_47 : decode cX6_takeSegment 47 = .ok (.if_icmp .ne 24, 3) := by decide +kernel
theorem dX6_takeSegment_50 : decode cX6_takeSegment 50 = .ok (.iload_n 2, 1) := by decide +kernel
theorem dX6_takeSegment_51 : decode cX6_takeSegment 51 = .ok (.ifCond .ne 20, 3) := by decide +kernel
theorem dX6_takeSegment_54 : decode cX6_takeSegment 54 = .ok (.aload_n 0, 1) := by decide +kernel
theorem dX6_takeSegment_55 : decode cX6_takeSegment 55 = .ok (.dup, 1) := by decide +kernel
theorem dX6_takeSegment_56 : decode cX6_takeSegment 56 = .ok (.getfield 26, 3) := by decide +kernel
theorem dX6_takeSegment_59 : decode cX6_takeSegment 59 = .ok (.iconst 1, 1) := by decide +kernel
theorem dX6_takeSegment_60 : decode cX6_takeSegment 60 = .ok (.iadd, 1) := by decide +kernel
theorem dX6_takeSegment_61 : decode cX6_takeSegment 61 = .ok (.putfield 26, 3) := by decide +kernel
theorem dX6_takeSegment_64 : decode cX6_takeSegment 64 = .ok (.aload_n 0, 1) := by decide +kernel
theorem dX6_takeSegment_65 : decode cX6_takeSegment 65 = .ok (.invokevirtual 40, 3) := by decide +kernel
theorem dX6_takeSegment_68 : decode cX6_takeSegment 68 = .ok (.goto 76, 3) := by decide +kernel
theorem dX6_takeSegment_71 : decode cX6_takeSegment 71 = .ok (.iload_n 1, 1) := by decide +kernel
theorem dX6_takeSegment_72 : decode cX6_takeSegment 72 = .ok (.bipush 67, 2) := by decide +kernel
theorem dX6_takeSegment_74 : decode cX6_takeSegment 74 = .ok (.if_icmp .ne 24, 3) := by decide +kernel
theorem dX6_takeSegment_77 : decode cX6_takeSegment 77 = .ok (.iload_n 2, 1) := by decide +kernel
theorem dX6_takeSegment_78 : decode cX6_takeSegment 78 = .ok (.ifCond .ne 20, 3) := by decide +kernel
theorem dX6_takeSegment_81 : decode cX6_takeSegment 81 = .ok (.aload_n 0, 1) := by decide +kernel
theorem dX6_takeSegment_82 : decode cX6_takeSegment 82 = .ok (.dup, 1) := by decide +kernel
theorem dX6_takeSegment_83 : decode cX6_takeSegment 83 = .ok (.getfield 26, 3) := by decide +kernel
theorem dX6_takeSegment_86 : decode cX6_takeSegment 86 = .ok (.iconst 1, 1) := by decide +kernel
theorem dX6_takeSegment_87 : decode cX6_takeSegment 87 = .ok (.iadd, 1) := by decide +kernel
theorem dX6_takeSegment_88 : decode cX6_takeSegment 88 = .ok (.putfield 26, 3) := by decide +kernel
theorem dX6_takeSegment_91 : decode cX6_takeSegment 91 = .ok (.aload_n 0, 1) := by decide +kernel
theorem dX6_takeSegment_92 : decode cX6_takeSegment 92 = .ok (.invokevirtual 60, 3) := by decide +kernel
theorem dX6_takeSegment_95 : decode cX6_takeSegment 95 = .ok (.goto 49, 3) := by decide +kernel
theorem dX6_takeSegment_98 : decode cX6_takeSegment 98 = .ok (.iload_n 1, 1) := by decide +kernel
theorem dX6_takeSegment_99 : decode cX6_takeSegment 99 = .ok (.bipush 90, 2) := by decide +kernel
theorem dX6_takeSegment_101 : decode cX6_takeSegment 101 = .ok (.if_icmp .ne 35, 3) := by decide +kernel
theorem dX6_takeSegment_104 : decode cX6_takeSegment 104 = .ok (.aload_n 0, 1) := by decide +kernel
theorem dX6_takeSegment_105 : decode cX6_takeSegment 105 = .ok (.getfield 18, 3) := by decide +kernel
theorem dX6_takeSegment_108 : decode cX6_takeSegment 108 = .ok (.getfield 53, 3) := by decide +kernel
theorem dX6_takeSegment_111 : decode cX6_takeSegment 111 = .ok (.iconst 2, 1) := by decide +kernel
theorem dX6_takeSegment_112 : decode cX6_takeSegment 112 = .ok (.if_icmp .lt 24, 3) := by decide +kernel
theorem dX6_takeSegment_115 : decode cX6_takeSegment 115 = .ok (.aload_n 0, 1) := by decide +kernel
theorem dX6_takeSegment_116 : decode cX6_takeSegment 116 = .ok (.dup, 1) := by decide +kernel
theorem dX6_takeSegment_117 : decode cX6_takeSegment 117 = .ok (.getfield 26, 3) := by decide +kernel
theorem dX6_takeSegment_120 : decode cX6_takeSegment 120 = .ok (.iconst 1, 1) := by decide +kernel
theorem dX6_takeSegment_121 : decode cX6_takeSegment 121 = .ok (.iadd, 1) := by decide +kernel
theorem dX6_takeSegment_122 : decode cX6_takeSegment 122 = .ok (.putfield 26, 3) := by decide +kernel
theorem dX6_takeSegment_125 : decode cX6_takeSegment 125 = .ok (.aload_n 0, 1) := by decide +kernel
theorem dX6_takeSegment_126 : decode cX6_takeSegment 126 = .ok (.getfield 18, 3) := by decide +kernel
theorem dX6_takeSegment_129 : decode cX6_takeSegment 129 = .ok (.iconst 1, 1) := by decide +kernel
theorem dX6_takeSegment_130 : decode cX6_takeSegment 130 = .ok (.putfield 56, 3) := by decide +kernel
theorem dX6_takeSegment_133 : decode cX6_takeSegment 133 = .ok (.goto 11, 3) := by decide +kernel
theorem dX6_takeSegment_136 : decode cX6_takeSegment 136 = .ok (.aload_n 0, 1) := by decide +kernel
theorem dX6_takeSegment_137 : decode cX6_takeSegment 137 = .ok (.aload_n 0, 1) := by decide +kernel
theorem dX6_takeSegment_138 : decode cX6_takeSegment 138 = .ok (.getfield 26, 3) := by decide +kernel
theorem dX6_takeSegment_141 : decode cX6_takeSegment 141 = .ok (.invokevirtual 50, 3) := by decide +kernel
theorem dX6_takeSegment_144 : decode cX6_takeSegment 144 = .ok (.return_, 1) := by decide +kernel
theorem dX6_takeCurve_0 : decode cX6_takeCurve 0 = .ok (.aload_n 0, 1) := by decide +kernel
theorem dX6_takeCurve_1 : decode cX6_takeCurve 1 = .ok (.getfield 18, 3) := by decide +kernel
theorem dX6_takeCurve_4 : decode cX6_takeCurve 4 = .ok (.getfield 53, 3) := by decide +kernel
theorem dX6_takeCurve_7 : decode cX6_takeCurve 7 = .ok (.iconst 1, 1) := by decide +kernel
theorem dX6_takeCurve_8 : decode cX6_takeCurve 8 = .ok (.isub, 1) := by decide +kernel
theorem dX6_takeCurve_9 : decode cX6_takeCurve 9 = .ok (.istore_n 1, 1) := by decide +kernel
theorem dX6_takeCurve_10 : decode cX6_takeCurve 10 = .ok (.aload_n 0, 1) := by decide +kernel
theorem dX6_takeCurve_11 : decode cX6_takeCurve 11 = .ok (.aload_n 0, 1) := by decide +kernel
theorem dX6_takeCurve_12 : decode cX6_takeCurve 12 = .ok (.getfield 63, 3) := by decide +kernel
theorem dX6_takeCurve_15 : decode cX6_takeCurve 15 = .ok (.invokevirtual 66, 3) := by decide +kernel
theorem dX6_takeCurve_18 : decode cX6_takeCurve 18 = .ok (.aload_n 0, 1) := by decide +kernel
theorem dX6_takeCurve_19 : decode cX6_takeCurve 19 = .ok (.getfield 63, 3) := by decide +kernel
theorem dX6_takeCurve_22 : decode cX6_takeCurve 22 = .ok (.isub, 1) := by decide +kernel
theorem dX6_takeCurve_23 : decode cX6_takeCurve 23 = .ok (.istore_n 2, 1) := by decide +kernel
theorem dX6_takeCurve_24 : decode cX6_takeCurve 24 = .ok (.aload_n 0, 1) := by decide +kernel
theorem dX6_takeCurve_25 : decode cX6_takeCurve 25 = .ok (.bipush 32, 2) := by decide +kernel
theorem dX6_takeCurve_27 : decode cX6_takeCurve 27 = .ok (.invokevirtual 36, 3) := by decide +kernel
theorem dX6_takeCurve_30 : decode cX6_takeCurve 30 = .ok (.aload_n 0, 1) := by decide +kernel
theorem dX6_takeCurve_31 : decode cX6_takeCurve 31 = .ok (.aload_n 0, 1) := by decide +kernel
theorem dX6_takeCurve_32 : decode cX6_takeCurve 32 = .ok (.getfield 70, 3) := by decide +kernel
theorem dX6_takeCurve_35 : decode cX6_takeCurve 35 = .ok (.invokevirtual 66, 3) := by decide +kernel
theorem dX6_takeCurve_38 : decode cX6_takeCurve 38 = .ok (.aload_n 0, 1) := by decide +kernel
theorem dX6_takeCurve_39 : decode cX6_takeCurve 39 = .ok (.getfield 70, 3) := by decide +kernel
theorem dX6_takeCurve_42 : decode cX6_takeCurve 42 = .ok (.isub, 1) := by decide +kernel
theorem dX6_takeCurve_43 : decode cX6_takeCurve 43 = .ok (.istore_n 3, 1) := by decide +kernel
theorem dX6_takeCurve_44 : decode cX6_takeCurve 44 = .ok (.aload_n 0, 1) := by decide +kernel
theorem dX6_takeCurve_45 : decode cX6_takeCurve 45 = .ok (.bipush 32, 2) := by decide +kernel
theorem dX6_takeCurve_47 : decode cX6_takeCurve 47 = .ok (.invokevirtual 36, 3) := by decide +kernel
theorem dX6_takeCurve_50 : decode cX6_takeCurve 50 = .ok (.aload_n 0, 1) := by decide +kernel
theorem dX6_takeCurve_51 : decode cX6_takeCurve 51 = .ok (.iconst 0, 1) := by decide +kernel
theorem dX6_takeCurve_52 : decode cX6_takeCurve 52 = .ok (.invokevirtual 66, 3) := by decide +kernel
theorem dX6_takeCurve_55 : decode cX6_takeCurve 55 = .ok (.istore 4, 2) := by decide +kernel
theorem dX6_takeCurve_57 : decode cX6_takeCurve 57 = .ok (.aload_n 0, 1) := by decide +kernel
theorem dX6_takeCurve_58 : decode cX6_takeCurve 58 = .ok (.bipush 32, 2) := by decide +kernel
theorem dX6_takeCurve_60 : decode cX6_takeCurve 60 = .ok (.invokevirtual 36, 3) := by decide +kernel
theorem dX6_takeCurve_63 : decode cX6_takeCurve 63 = .ok (.aload_n 0, 1) := by decide +kernel
theorem dX6_takeCurve_64 : decode cX6_takeCurve 64 = .ok (.iconst 0, 1) := by decide +kernel
theorem dX6_takeCurve_65 : decode cX6_takeCurve 65 = .ok (.invokevirtual 66, 3) := by decide +kernel
theorem dX6_takeCurve_68 : decode cX6_takeCurve 68 = .ok (.istore 5, 2) := by decide +kernel
theorem dX6_takeCurve_70 : decode cX6_takeCurve 70 = .ok (.aload_n 0, 1) := by decide +kernel
theorem dX6_takeCurve_71 : decode cX6_takeCurve 71 = .ok (.bipush 32, 2) := by decide +kernel
theorem dX6_takeCurve_73 : decode cX6_takeCurve 73 = .ok (.invokevirtual 36, 3) := by decide +kernel
theorem dX6_takeCurve_76 : decode cX6_takeCurve 76 = .ok (.aload_n 0, 1) := by decide +kernel
theorem dX6_takeCurve_77 : decode cX6_takeCurve 77 = .ok (.aload_n 0, 1) := by decide +kernel
theorem dX6_takeCurve_78 : decode cX6_takeCurve 78 = .ok (.iload 4, 2) := by decide +kernel
theorem dX6_takeCurve_80 : decode cX6_takeCurve 80 = .ok (.invokevirtual 66, 3) := by decide +kernel
theorem dX6_takeCurve_83 : decode cX6_takeCurve 83 = .ok (.putfield 63, 3) := by decide +kernel
theorem dX6_takeCurve_86 : decode cX6_takeCurve 86 = .ok (.aload_n 0, 1) := by decide +kernel
theorem dX6_takeCurve_87 : decode cX6_takeCurve 87 = .ok (.bipush 32, 2) := by decide +kernel
theorem dX6_takeCurve_89 : decode cX6_takeCurve 89 = .ok (.invokevirtual 36, 3) := by decide +kernel
theorem dX6_takeCurve_92 : decode cX6_takeCurve 92 = .ok (.aload_n 0, 1) := by decide +kernel
theorem dX6_takeCurve_93 : decode cX6_takeCurve 93 = .ok (.aload_n 0, 1) := by decide +kernel
theorem dX6_takeCurve_94 : decode cX6_takeCurve 94 = .ok (.iload 5, 2) := by decide +kernel
theorem dX6_takeCurve_96 : decode cX6_takeCurve 96 = .ok (.invokevirtual 66, 3) := by decide +kernel
theorem dX6_takeCurve_99 : decode cX6_takeCurve 99 = .ok (.putfield 70, 3) := by decide +kernel
theorem dX6_takeCurve_102 : decode cX6_takeCurve 102 = .ok (.aload_n 0, 1) := by decide +kernel
theorem dX6_takeCurve_103 : decode cX6_takeCurve 103 = .ok (.getfield 18, 3) := by decide +kernel
theorem dX6_takeCurve_106 : decode cX6_takeCurve 106 = .ok (.aload_n 0, 1) := by decide +kernel
theorem dX6_takeCurve_107 : decode cX6_takeCurve 107 = .ok (.getfield 63, 3) := by decide +kernel
theorem dX6_takeCurve_110 : decode cX6_takeCurve 110 = .ok (.ldc 73, 2) := by decide +kernel
theorem dX6_takeCurve_112 : decode cX6_takeCurve 112 = .ok (.imul, 1) := by decide +kernel
theorem dX6_takeCurve_113 : decode cX6_takeCurve 113 = .ok (.aload_n 0, 1) := by decide +kernel
theorem dX6_takeCurve_114 : decode cX6_takeCurve 114 = .ok (.getfield 70, 3) := by decide +kernel
theorem dX6_takeCurve_117 : decode cX6_takeCurve 117 = .ok (.ldc 73, 2) := by decide +kernel
theorem dX6_takeCurve_119 : decode cX6_takeCurve 119 = .ok (.imul, 1) := by decide +kernel
theorem dX6_takeCurve_120 : decode cX6_takeCurve 120 = .ok (.invokevirtual 74, 3) := by decide +kernel
theorem dX6_takeCurve_123 : decode cX6_takeCurve 123 = .ok (.aload_n 0, 1) := by decide +kernel
theorem dX6_takeCurve_124 : decode cX6_takeCurve 124 = .ok (.getfield 18, 3) := by decide +kernel
theorem dX6_takeCurve_127 : decode cX6_takeCurve 127 = .ok (.iload_n 1, 1) := by decide +kernel
theorem dX6_takeCurve_128 : decode cX6_takeCurve 128 = .ok (.iconst 4, 1) := by decide +kernel
theorem dX6_takeCurve_129 : decode cX6_takeCurve 129 = .ok (.iload_n 2, 1) := by decide +kernel
theorem dX6_takeCurve_130 : decode cX6_takeCurve 130 = .ok (.ldc 73, 2) := by decide +kernel
theorem dX6_takeCurve_132 : decode cX6_takeCurve 132 = .ok (.imul, 1) := by decide +kernel
theorem dX6_takeCurve_133 : decode cX6_takeCurve 133 = .ok (.invokevirtual 78, 3) := by decide +kernel
theorem dX6_takeCurve_136 : decode cX6_takeCurve 136 = .ok (.aload_n 0, 1) := by decide +kernel
theorem dX6_takeCurve_137 : decode cX6_takeCurve 137 = .ok (.getfield 18, 3) := by decide +kernel
theorem dX6_takeCurve_140 : decode cX6_takeCurve 140 = .ok (.iload_n 1, 1) := by decide +kernel
theorem dX6_takeCurve_141 : decode cX6_takeCurve 141 = .ok (.iconst 5, 1) := by decide +kernel
theorem dX6_takeCurve_142 : decode cX6_takeCurve 142 = .ok (.iload_n 3, 1) := by decide +kernel
theorem dX6_takeCurve_143 : decode cX6_takeCurve 143 = .ok (.ldc 73, 2) := by decide +kernel
theorem dX6_takeCurve_145 : decode cX6_takeCurve 145 = .ok (.imul, 1) := by decide +kernel
theorem dX6_takeCurve_146 : decode cX6_takeCurve 146 = .ok (.invokevirtual 78, 3) := by decide +kernel
theorem dX6_takeCurve_149 : decode cX6_takeCurve 149 = .ok (.aload_n 0, 1) := by decide +kernel
theorem dX6_takeCurve_150 : decode cX6_takeCurve 150 = .ok (.getfield 18, 3) := by decide +kernel
theorem dX6_takeCurve_153 : decode cX6_takeCurve 153 = .ok (.iload_n 1, 1) := by decide +kernel
theorem dX6_takeCurve_154 : decode cX6_takeCurve 154 = .ok (.iconst 1, 1) := by decide +kernel
theorem dX6_takeCurve_155 : decode cX6_takeCurve 155 = .ok (.iadd, 1) := by decide +kernel
theorem dX6_takeCurve_156 : decode cX6_takeCurve 156 = .ok (.iconst 2, 1) := by decide +kernel
theorem dX6_takeCurve_157 : decode cX6_takeCurve 157 = .ok (.iload 4, 2) := by decide +kernel
theorem dX6_takeCurve_159 : decode cX6_takeCurve 159 = .ok (.aload_n 0, 1) := by decide +kernel
theorem dX6_takeCurve_160 : decode cX6_takeCurve 160 = .ok (.getfield 63, 3) := by decide +kernel
theorem dX6_takeCurve_163 : decode cX6_takeCurve 163 = .ok (.isub, 1) := by decide +kernel
theorem dX6_takeCurve_164 : decode cX6_takeCurve 164 = .ok (.ldc 73, 2) := by decide +kernel
theorem dX6_takeCurve_166 : decode cX6_takeCurve 166 = .ok (.imul, 1) := by decide +kernel
end
section
theorem dX6_takeCurve_167 : decode cX6_takeCurve 167 = .ok (.invokevirtual 78, 3) := by decide +kernel
theorem dX6_takeCurve_170 : decode cX6_takeCurve 170 = .ok (.aload_n 0, 1) := by decide +kernel
theorem dX6_takeCurve_171 : decode cX6_takeCurve 171 = .ok (.getfield 18, 3) := by decide +kernel
theorem dX6_takeCurve_174 : decode cX6_takeCurve 174 = .ok (.iload_n 1, 1) := by decide +kernel
theorem dX6_takeCurve_175 : decode cX6_takeCurve 175 = .ok (.iconst 1, 1) := by decide +kernel
theorem dX6_takeCurve_176 : decode cX6_takeCurve 176 = .ok (.iadd, 1) := by decide +kernel
theorem dX6_takeCurve_177 : decode cX6_takeCurve 177 = .ok (.iconst 3, 1) := by decide +kernel
theorem dX6_takeCurve_178 : decode cX6_takeCurve 178 = .ok (.iload 5, 2) := by decide +kernel
theorem dX6_takeCurve_180 : decode cX6_takeCurve 180 = .ok (.aload_n 0, 1) := by decide +kernel
theorem dX6_takeCurve_181 : decode cX6_takeCurve 181 = .ok (.getfield 70, 3) := by decide +kernel
theorem dX6_takeCurve_184 : decode cX6_takeCurve 184 = .ok (.isub, 1) := by decide +kernel
theorem dX6_takeCurve_185 : decode cX6_takeCurve 185 = .ok (.ldc 73, 2) := by decide +kernel
theorem dX6_takeCurve_187 : decode cX6_takeCurve 187 = .ok (.imul, 1) := by decide +kernel
theorem dX6_takeCurve_188 : decode cX6_takeCurve 188 = .ok (.invokevirtual 78, 3) := by decide +kernel
theorem dX6_takeCurve_191 : decode cX6_takeCurve 191 = .ok (.return_, 1) := by decide +kernel
theorem dX6_takeLine_0 : decode cX6_takeLine 0 = .ok (.aload_n 0, 1) := by decide +kernel
theorem dX6_takeLine_1 : decode cX6_takeLine 1 = .ok (.aload_n 0, 1) := by decide +kernel
theorem dX6_takeLine_2 : decode cX6_takeLine 2 = .ok (.iconst 0, 1) := by decide +kernel
theorem dX6_takeLine_3 : decode cX6_takeLine 3 = .ok (.invokevirtual 66, 3) := by decide +kernel
theorem dX6_takeLine_6 : decode cX6_takeLine 6 = .ok (.putfield 63, 3) := by decide +kernel
theorem dX6_takeLine_9 : decode cX6_takeLine 9 = .ok (.aload_n 0, 1) := by decide +kernel
theorem dX6_takeLine_10 : decode cX6_takeLine 10 = .ok (.bipush 32, 2) := by decide +kernel
theorem dX6_takeLine_12 : decode cX6_takeLine 12 = .ok (.invokevirtual 36, 3) := by decide +kernel
theorem dX6_takeLine_15 : decode cX6_takeLine 15 = .ok (.aload_n 0, 1) := by decide +kernel
theorem dX6_takeLine_16 : decode cX6_takeLine 16 = .ok (.aload_n 0, 1) := by decide +kernel
theorem dX6_takeLine_17 : decode cX6_takeLine 17 = .ok (.iconst 0, 1) := by decide +kernel
theorem dX6_takeLine_18 : decode cX6_takeLine 18 = .ok (.invokevirtual 66, 3) := by decide +kernel
theorem dX6_takeLine_21 : decode cX6_takeLine 21 = .ok (.putfield 70, 3) := by decide +kernel
theorem dX6_takeLine_24 : decode cX6_takeLine 24 = .ok (.aload_n 0, 1) := by decide +kernel
theorem dX6_takeLine_25 : decode cX6_takeLine 25 = .ok (.getfield 18, 3) := by decide +kernel
theorem dX6_takeLine_28 : decode cX6_takeLine 28 = .ok (.aload_n 0, 1) := by decide +kernel
theorem dX6_takeLine_29 : decode cX6_takeLine 29 = .ok (.getfield 63, 3) := by decide +kernel
theorem dX6_takeLine_32 : decode cX6_takeLine 32 = .ok (.ldc 73, 2) := by decide +kernel
theorem dX6_takeLine_34 : decode cX6_takeLine 34 = .ok (.imul, 1) := by decide +kernel
theorem dX6_takeLine_35 : decode cX6_takeLine 35 = .ok (.aload_n 0, 1) := by decide +kernel
theorem dX6_takeLine_36 : decode cX6_takeLine 36 = .ok (.getfield 70, 3) := by decide +kernel
theorem dX6_takeLine_39 : decode cX6_takeLine 39 = .ok (.ldc 73, 2) := by decide +kernel
theorem dX6_takeLine_41 : decode cX6_takeLine 41 = .ok (.imul, 1) := by decide +kernel
theorem dX6_takeLine_42 : decode cX6_takeLine 42 = .ok (.invokevirtual 74, 3) := by decide +kernel
theorem dX6_takeLine_45 : decode cX6_takeLine 45 = .ok (.return_, 1) := by decide +kernel
theorem dX6_takeNumber_0 : decode cX6_takeNumber 0 = .ok (.aload_n 0, 1) := by decide +kernel
theorem dX6_takeNumber_1 : decode cX6_takeNumber 1 = .ok (.getfield 26, 3) := by decide +kernel
theorem dX6_takeNumber_4 : decode cX6_takeNumber 4 = .ok (.istore_n 2, 1) := by decide +kernel
theorem dX6_takeNumber_5 : decode cX6_takeNumber 5 = .ok (.aload_n 0, 1) := by decide +kernel
theorem dX6_takeNumber_6 : decode cX6_takeNumber 6 = .ok (.invokevirtual 46, 3) := by decide +kernel
theorem dX6_takeNumber_9 : decode cX6_takeNumber 9 = .ok (.bipush 45, 2) := by decide +kernel
theorem dX6_takeNumber_11 : decode cX6_takeNumber 11 = .ok (.if_icmp .ne 7, 3) := by decide +kernel
theorem dX6_takeNumber_14 : decode cX6_takeNumber 14 = .ok (.iconst 1, 1) := by decide +kernel
theorem dX6_takeNumber_15 : decode cX6_takeNumber 15 = .ok (.goto 4, 3) := by decide +kernel
theorem dX6_takeNumber_18 : decode cX6_takeNumber 18 = .ok (.iconst 0, 1) := by decide +kernel
theorem dX6_takeNumber_19 : decode cX6_takeNumber 19 = .ok (.istore_n 3, 1) := by decide +kernel
theorem dX6_takeNumber_20 : decode cX6_takeNumber 20 = .ok (.iload_n 3, 1) := by decide +kernel
theorem dX6_takeNumber_21 : decode cX6_takeNumber 21 = .ok (.ifCond .eq 13, 3) := by decide +kernel
theorem dX6_takeNumber_24 : decode cX6_takeNumber 24 = .ok (.aload_n 0, 1) := by decide +kernel
theorem dX6_takeNumber_25 : decode cX6_takeNumber 25 = .ok (.dup, 1) := by decide +kernel
theorem dX6_takeNumber_26 : decode cX6_takeNumber 26 = .ok (.getfield 26, 3) := by decide +kernel
theorem dX6_takeNumber_29 : decode cX6_takeNumber 29 = .ok (.iconst 1, 1) := by decide +kernel
theorem dX6_takeNumber_30 : decode cX6_takeNumber 30 = .ok (.iadd, 1) := by decide +kernel
theorem dX6_takeNumber_31 : decode cX6_takeNumber 31 = .ok (.putfield 26, 3) := by decide +kernel
theorem dX6_takeNumber_34 : decode cX6_takeNumber 34 = .ok (.aload_n 0, 1) := by decide +kernel
theorem dX6_takeNumber_35 : decode cX6_takeNumber 35 = .ok (.invokevirtual 46, 3) := by decide +kernel
theorem dX6_takeNumber_38 : decode cX6_takeNumber 38 = .ok (.istore 4, 2) := by decide +kernel
theorem dX6_takeNumber_40 : decode cX6_takeNumber 40 = .ok (.aload_n 0, 1) := by decide +kernel
theorem dX6_takeNumber_41 : decode cX6_takeNumber 41 = .ok (.getfield 30, 3) := by decide +kernel
theorem dX6_takeNumber_44 : decode cX6_takeNumber 44 = .ok (.ldc 29, 2) := by decide +kernel
theorem dX6_takeNumber_46 : decode cX6_takeNumber 46 = .ok (.if_icmp .ne 26, 3) := by decide +kernel
theorem dX6_takeNumber_49 : decode cX6_takeNumber 49 = .ok (.iload 4, 2) := by decide +kernel
theorem dX6_takeNumber_51 : decode cX6_takeNumber 51 = .ok (.iload_n 3, 1) := by decide +kernel
theorem dX6_takeNumber_52 : decode cX6_takeNumber 52 = .ok (.ifCond .eq 8, 3) := by decide +kernel
theorem dX6_takeNumber_55 : decode cX6_takeNumber 55 = .ok (.bipush 49, 2) := by decide +kernel
theorem dX6_takeNumber_57 : decode cX6_takeNumber 57 = .ok (.goto 5, 3) := by decide +kernel
theorem dX6_takeNumber_60 : decode cX6_takeNumber 60 = .ok (.bipush 48, 2) := by decide +kernel
theorem dX6_takeNumber_62 : decode cX6_takeNumber 62 = .ok (.if_icmp .lt 10, 3) := by decide +kernel
theorem dX6_takeNumber_65 : decode cX6_takeNumber 65 = .ok (.iload 4, 2) := by decide +kernel
theorem dX6_takeNumber_67 : decode cX6_takeNumber 67 = .ok (.bipush 57, 2) := by decide +kernel
theorem dX6_takeNumber_69 : decode cX6_takeNumber 69 = .ok (.if_icmp .le 13, 3) := by decide +kernel
theorem dX6_takeNumber_72 : decode cX6_takeNumber 72 = .ok (.aload_n 0, 1) := by decide +kernel
theorem dX6_takeNumber_73 : decode cX6_takeNumber 73 = .ok (.aload_n 0, 1) := by decide +kernel
theorem dX6_takeNumber_74 : decode cX6_takeNumber 74 = .ok (.getfield 26, 3) := by decide +kernel
theorem dX6_takeNumber_77 : decode cX6_takeNumber 77 = .ok (.invokevirtual 50, 3) := by decide +kernel
theorem dX6_takeNumber_80 : decode cX6_takeNumber 80 = .ok (.iconst 0, 1) := by decide +kernel
theorem dX6_takeNumber_81 : decode cX6_takeNumber 81 = .ok (.ireturn, 1) := by decide +kernel
theorem dX6_takeNumber_82 : decode cX6_takeNumber 82 = .ok (.aload_n 0, 1) := by decide +kernel
theorem dX6_takeNumber_83 : decode cX6_takeNumber 83 = .ok (.invokevirtual 82, 3) := by decide +kernel
theorem dX6_takeNumber_86 : decode cX6_takeNumber 86 = .ok (.istore 5, 2) := by decide +kernel
theorem dX6_takeNumber_88 : decode cX6_takeNumber 88 = .ok (.iload_n 3, 1) := by decide +kernel
theorem dX6_takeNumber_89 : decode cX6_takeNumber 89 = .ok (.ifCond .eq 9, 3) := by decide +kernel
theorem dX6_takeNumber_92 : decode cX6_takeNumber 92 = .ok (.iload 5, 2) := by decide +kernel
theorem dX6_takeNumber_94 : decode cX6_takeNumber 94 = .ok (.ineg, 1) := by decide +kernel
theorem dX6_takeNumber_95 : decode cX6_takeNumber 95 = .ok (.goto 5, 3) := by decide +kernel
theorem dX6_takeNumber_98 : decode cX6_takeNumber 98 = .ok (.iload 5, 2) := by decide +kernel
theorem dX6_takeNumber_100 : decode cX6_takeNumber 100 = .ok (.istore 6, 2) := by decide +kernel
theorem dX6_takeNumber_102 : decode cX6_takeNumber 102 = .ok (.iload 5, 2) := by decide +kernel
theorem dX6_takeNumber_104 : decode cX6_takeNumber 104 = .ok (.sipush 200, 3) := by decide +kernel
theorem dX6_takeNumber_107 : decode cX6_takeNumber 107 = .ok (.if_icmp .gt 16, 3) := by decide +kernel
theorem dX6_takeNumber_110 : decode cX6_takeNumber 110 = .ok (.iload 6, 2) := by decide +kernel
theorem dX6_takeNumber_112 : decode cX6_takeNumber 112 = .ok (.iload_n 1, 1) := by decide +kernel
theorem dX6_takeNumber_113 : decode cX6_takeNumber 113 = .ok (.isub, 1) := by decide +kernel
theorem dX6_takeNumber_114 : decode cX6_takeNumber 114 = .ok (.invokestatic 85, 3) := by decide +kernel
theorem dX6_takeNumber_117 : decode cX6_takeNumber 117 = .ok (.sipush 200, 3) := by decide +kernel
theorem dX6_takeNumber_120 : decode cX6_takeNumber 120 = .ok (.if_icmp .le 8, 3) := by decide +kernel
theorem dX6_takeNumber_123 : decode cX6_takeNumber 123 = .ok (.aload_n 0, 1) := by decide +kernel
theorem dX6_takeNumber_124 : decode cX6_takeNumber 124 = .ok (.iload_n 2, 1) := by decide +kernel
theorem dX6_takeNumber_125 : decode cX6_takeNumber 125 = .ok (.invokevirtual 50, 3) := by decide +kernel
theorem dX6_takeNumber_128 : decode cX6_takeNumber 128 = .ok (.iload 6, 2) := by decide +kernel
theorem dX6_takeNumber_130 : decode cX6_takeNumber 130 = .ok (.ireturn, 1) := by decide +kernel
theorem dX6_takeDigits_0 : decode cX6_takeDigits 0 = .ok (.iconst 0, 1) := by decide +kernel
theorem dX6_takeDigits_1 : decode cX6_takeDigits 1 = .ok (.istore_n 1, 1) := by decide +kernel
theorem dX6_takeDigits_2 : decode cX6_takeDigits 2 = .ok (.iconst 0, 1) := by decide +kernel
theorem dX6_takeDigits_3 : decode cX6_takeDigits 3 = .ok (.istore_n 2, 1) := by decide +kernel
theorem dX6_takeDigits_4 : decode cX6_takeDigits 4 = .ok (.iload_n 2, 1) := by decide +kernel
theorem dX6_takeDigits_5 : decode cX6_takeDigits 5 = .ok (.bipush 120, 2) := by decide +kernel
theorem dX6_takeDigits_7 : decode cX6_takeDigits 7 = .ok (.if_icmp .ge 64, 3) := by decide +kernel
theorem dX6_takeDigits_10 : decode cX6_takeDigits 10 = .ok (.aload_n 0, 1) := by decide +kernel
theorem dX6_takeDigits_11 : decode cX6_takeDigits 11 = .ok (.invokevirtual 46, 3) := by decide +kernel
theorem dX6_takeDigits_14 : decode cX6_takeDigits 14 = .ok (.istore_n 3, 1) := by decide +kernel
theorem dX6_takeDigits_15 : decode cX6_takeDigits 15 = .ok (.iload_n 3, 1) := by decide +kernel
theorem dX6_takeDigits_16 : decode cX6_takeDigits 16 = .ok (.bipush 48, 2) := by decide +kernel
theorem dX6_takeDigits_18 : decode cX6_takeDigits 18 = .ok (.if_icmp .lt 53, 3) := by decide +kernel
theorem dX6_takeDigits_21 : decode cX6_takeDigits 21 = .ok (.iload_n 3, 1) := by decide +kernel
theorem dX6_takeDigits_22 : decode cX6_takeDigits 22 = .ok (.bipush 57, 2) := by decide +kernel
theorem dX6_takeDigits_24 : decode cX6_takeDigits 24 = .ok (.if_icmp .gt 47, 3) := by decide +kernel
theorem dX6_takeDigits_27 : decode cX6_takeDigits 27 = .ok (.iload_n 2, 1) := by decide +kernel
theorem dX6_takeDigits_28 : decode cX6_takeDigits 28 = .ok (.iconst 1, 1) := by decide +kernel
theorem dX6_takeDigits_29 : decode cX6_takeDigits 29 = .ok (.if_icmp .ne 10, 3) := by decide +kernel
theorem dX6_takeDigits_32 : decode cX6_takeDigits 32 = .ok (.iload_n 1, 1) := by decide +kernel
theorem dX6_takeDigits_33 : decode cX6_takeDigits 33 = .ok (.ifCond .ne 6, 3) := by decide +kernel
theorem dX6_takeDigits_36 : decode cX6_takeDigits 36 = .ok (.goto 35, 3) := by decide +kernel
theorem dX6_takeDigits_39 : decode cX6_takeDigits 39 = .ok (.bipush 10, 2) := by decide +kernel
theorem dX6_takeDigits_41 : decode cX6_takeDigits 41 = .ok (.iload_n 1, 1) := by decide +kernel
theorem dX6_takeDigits_42 : decode cX6_takeDigits 42 = .ok (.imul, 1) := by decide +kernel
theorem dX6_takeDigits_43 : decode cX6_takeDigits 43 = .ok (.iload_n 3, 1) := by decide +kernel
theorem dX6_takeDigits_44 : decode cX6_takeDigits 44 = .ok (.iadd, 1) := by decide +kernel
theorem dX6_takeDigits_45 : decode cX6_takeDigits 45 = .ok (.bipush 48, 2) := by decide +kernel
theorem dX6_takeDigits_47 : decode cX6_takeDigits 47 = .ok (.isub, 1) := by decide +kernel
theorem dX6_takeDigits_48 : decode cX6_takeDigits 48 = .ok (.sipush 2000, 3) := by decide +kernel
theorem dX6_takeDigits_51 : decode cX6_takeDigits 51 = .ok (.invokestatic 90, 3) := by decide +kernel
theorem dX6_takeDigits_54 : decode cX6_takeDigits 54 = .ok (.istore_n 1, 1) := by decide +kernel
theorem dX6_takeDigits_55 : decode cX6_takeDigits 55 = .ok (.aload_n 0, 1) := by decide +kernel
theorem dX6_takeDigits_56 : decode cX6_takeDigits 56 = .ok (.dup, 1) := by decide +kernel
theorem dX6_takeDigits_57 : decode cX6_takeDigits 57 = .ok (.getfield 26, 3) := by decide +kernel
theorem dX6_takeDigits_60 : decode cX6_takeDigits 60 = .ok (.iconst 1, 1) := by decide +kernel
theorem dX6_takeDigits_61 : decode cX6_takeDigits 61 = .ok (.iadd, 1) := by decide +kernel
theorem dX6_takeDigits_62 : decode cX6_takeDigits 62 = .ok (.putfield 26, 3) := by decide +kernel
theorem dX6_takeDigits_65 : decode cX6_takeDigits 65 = .ok (.iinc 2 1, 3) := by decide +kernel
theorem dX6_takeDigits_68 : decode cX6_takeDigits 68 = .ok (.goto (-64), 3) := by decide +kernel
theorem dX6_takeDigits_71 : decode cX6_takeDigits 71 = .ok (.iload_n 1, 1) := by decide +kernel
theorem dX6_takeDigits_72 : decode cX6_takeDigits 72 = .ok (.ireturn, 1) := by decide +kernel
theorem dX7_init_0 : decode cX7_init 0 = .ok (.aload_n 0, 1) := by decide +kernel
theorem dX7_init_1 : decode cX7_init 1 = .ok (.invokespecial 1, 3) := by decide +kernel
theorem dX7_init_4 : decode cX7_init 4 = .ok (.aload_n 0, 1) := by decide +kernel
theorem dX7_init_5 : decode cX7_init 5 = .ok (.new 7, 3) := by decide +kernel
theorem dX7_init_8 : decode cX7_init 8 = .ok (.dup, 1) := by decide +kernel
theorem dX7_init_9 : decode cX7_init 9 = .ok (.invokespecial 9, 3) := by decide +kernel
theorem dX7_init_12 : decode cX7_init 12 = .ok (.putfield 10, 3) := by decide +kernel
theorem dX7_init_15 : decode cX7_init 15 = .ok (.aload_n 0, 1) := by decide +kernel
theorem dX7_init_16 : decode cX7_init 16 = .ok (.iconst 2, 1) := by decide +kernel
theorem dX7_init_17 : decode cX7_init 17 = .ok (.anewarray 16, 3) := by decide +kernel
theorem dX7_init_20 : decode cX7_init 20 = .ok (.putfield 18, 3) := by decide +kernel
theorem dX7_init_23 : decode cX7_init 23 = .ok (.aload_n 0, 1) := by decide +kernel
theorem dX7_init_24 : decode cX7_init 24 = .ok (.iconst 2, 1) := by decide +kernel
theorem dX7_init_25 : decode cX7_init 25 = .ok (.newarray .boolean, 2) := by decide +kernel
theorem dX7_init_27 : decode cX7_init 27 = .ok (.putfield 22, 3) := by decide +kernel
theorem dX7_init_30 : decode cX7_init 30 = .ok (.aload_n 0, 1) := by decide +kernel
theorem dX7_init_31 : decode cX7_init 31 = .ok (.new 26, 3) := by decide +kernel
theorem dX7_init_34 : decode cX7_init 34 = .ok (.dup, 1) := by decide +kernel
theorem dX7_init_35 : decode cX7_init 35 = .ok (.invokespecial 28, 3) := by decide +kernel
theorem dX7_init_38 : decode cX7_init 38 = .ok (.putfield 29, 3) := by decide +kernel
theorem dX7_init_41 : decode cX7_init 41 = .ok (.aload_n 0, 1) := by decide +kernel
theorem dX7_init_42 : decode cX7_init 42 = .ok (.new 33, 3) := by decide +kernel
theorem dX7_init_45 : decode cX7_init 45 = .ok (.dup, 1) := by decide +kernel
theorem dX7_init_46 : decode cX7_init 46 = .ok (.invokespecial 35, 3) := by decide +kernel
theorem dX7_init_49 : decode cX7_init 49 = .ok (.putfield 36, 3) := by decide +kernel
theorem dX7_init_52 : decode cX7_init 52 = .ok (.aload_n 0, 1) := by decide +kernel
theorem dX7_init_53 : decode cX7_init 53 = .ok (.new 40, 3) := by decide +kernel
theorem dX7_init_56 : decode cX7_init 56 = .ok (.dup, 1) := by decide +kernel
theorem dX7_init_57 : decode cX7_init 57 = .ok (.invokespecial 42, 3) := by decide +kernel
theorem dX7_init_60 : decode cX7_init 60 = .ok (.putfield 43, 3) := by decide +kernel
theorem dX7_init_63 : decode cX7_init 63 = .ok (.aload_n 0, 1) := by decide +kernel
theorem dX7_init_64 : decode cX7_init 64 = .ok (.new 47, 3) := by decide +kernel
theorem dX7_init_67 : decode cX7_init 67 = .ok (.dup, 1) := by decide +kernel
theorem dX7_init_68 : decode cX7_init 68 = .ok (.invokespecial 49, 3) := by decide +kernel
theorem dX7_init_71 : decode cX7_init 71 = .ok (.putfield 50, 3) := by decide +kernel
theorem dX7_init_74 : decode cX7_init 74 = .ok (.iconst 0, 1) := by decide +kernel
theorem dX7_init_75 : decode cX7_init 75 = .ok (.istore_n 1, 1) := by decide +kernel
theorem dX7_init_76 : decode cX7_init 76 = .ok (.iload_n 1, 1) := by decide +kernel
theorem dX7_init_77 : decode cX7_init 77 = .ok (.iconst 2, 1) := by decide +kernel
theorem dX7_init_78 : decode cX7_init 78 = .ok (.if_icmp .ge 22, 3) := by decide +kernel
theorem dX7_init_81 : decode cX7_init 81 = .ok (.aload_n 0, 1) := by decide +kernel
theorem dX7_init_82 : decode cX7_init 82 = .ok (.getfield 18, 3) := by decide +kernel
theorem dX7_init_85 : decode cX7_init 85 = .ok (.iload_n 1, 1) := by decide +kernel
theorem dX7_init_86 : decode cX7_init 86 = .ok (.new 16, 3) := by decide +kernel
theorem dX7_init_89 : decode cX7_init 89 = .ok (.dup, 1) := by decide +kernel
theorem dX7_init_90 : decode cX7_init 90 = .ok (.invokespecial 54, 3) := by decide +kernel
theorem dX7_init_93 : decode cX7_init 93 = .ok (.aastore, 1) := by decide +kernel
theorem dX7_init_94 : decode cX7_init 94 = .ok (.iinc 1 1, 3) := by decide +kernel
theorem dX7_init_97 : decode cX7_init 97 = .ok (.goto (-21), 3) := by decide +kernel
theorem dX7_init_100 : decode cX7_init 100 = .ok (.return_, 1) := by decide +kernel
theorem dX7_addPath_0 : decode cX7_addPath 0 = .ok (.iload_n 1, 1) := by decide +kernel
theorem dX7_addPath_1 : decode cX7_addPath 1 = .ok (.invokestatic 55, 3) := by decide +kernel
theorem dX7_addPath_4 : decode cX7_addPath 4 = .ok (.ifCond .eq 10, 3) := by decide +kernel
theorem dX7_addPath_7 : decode cX7_addPath 7 = .ok (.iload_n 2, 1) := by decide +kernel
theorem dX7_addPath_8 : decode cX7_addPath 8 = .ok (.invokestatic 55, 3) := by decide +kernel
theorem dX7_addPath_11 : decode cX7_addPath 11 = .ok (.ifCond .ne 6, 3) := by decide +kernel
theorem dX7_addPath_14 : decode cX7_addPath 14 = .ok (.ldc 59, 2) := by decide +kernel
theorem dX7_addPath_16 : decode cX7_addPath 16 = .ok (.ireturn, 1) := by decide +kernel
theorem dX7_addPath_17 : decode cX7_addPath 17 = .ok (.aload_n 0, 1) := by decide +kernel
theorem dX7_addPath_18 : decode cX7_addPath 18 = .ok (.invokevirtual 60, 3) := by decide +kernel
theorem dX7_addPath_21 : decode cX7_addPath 21 = .ok (.invokevirtual 64, 3) := by decide +kernel
theorem dX7_addPath_24 : decode cX7_addPath 24 = .ok (.astore_n 3, 1) := by decide +kernel
theorem dX7_addPath_25 : decode cX7_addPath 25 = .ok (.aload_n 3, 1) := by decide +kernel
theorem dX7_addPath_26 : decode cX7_addPath 26 = .ok (.ifnonnull 6, 3) := by decide +kernel
theorem dX7_addPath_29 : decode cX7_addPath 29 = .ok (.ldc 68, 2) := by decide +kernel
theorem dX7_addPath_31 : decode cX7_addPath 31 = .ok (.ireturn, 1) := by decide +kernel
theorem dX7_addPath_32 : decode cX7_addPath 32 = .ok (.aload_n 3, 1) := by decide +kernel
theorem dX7_addPath_33 : decode cX7_addPath 33 = .ok (.iload_n 1, 1) := by decide +kernel
theorem dX7_addPath_34 : decode cX7_addPath 34 = .ok (.ldc 69, 2) := by decide +kernel
theorem dX7_addPath_36 : decode cX7_addPath 36 = .ok (.imul, 1) := by decide +kernel
theorem dX7_addPath_37 : decode cX7_addPath 37 = .ok (.iload_n 2, 1) := by decide +kernel
theorem dX7_addPath_38 : decode cX7_addPath 38 = .ok (.ldc 69, 2) := by decide +kernel
theorem dX7_addPath_40 : decode cX7_addPath 40 = .ok (.imul, 1) := by decide +kernel
theorem dX7_addPath_41 : decode cX7_addPath 41 = .ok (.invokevirtual 70, 3) := by decide +kernel
theorem dX7_addPath_44 : decode cX7_addPath 44 = .ok (.aload_n 0, 1) := by decide +kernel
theorem dX7_addPath_45 : decode cX7_addPath 45 = .ok (.aload_n 0, 1) := by decide +kernel
theorem dX7_addPath_46 : decode cX7_addPath 46 = .ok (.getfield 10, 3) := by decide +kernel
theorem dX7_addPath_49 : decode cX7_addPath 49 = .ok (.invokevirtual 76, 3) := by decide +kernel
theorem dX7_addPath_52 : decode cX7_addPath 52 = .ok (.getfield 79, 3) := by decide +kernel
theorem dX7_addPath_55 : decode cX7_addPath 55 = .ok (.invokevirtual 83, 3) := by decide +kernel
theorem dX7_addPath_58 : decode cX7_addPath 58 = .ok (.ireturn, 1) := by decide +kernel
theorem dX7_extend_0 : decode cX7_extend 0 = .ok (.aload_n 0, 1) := by decide +kernel
theorem dX7_extend_1 : decode cX7_extend 1 = .ok (.invokevirtual 60, 3) := by decide +kernel
theorem dX7_extend_4 : decode cX7_extend 4 = .ok (.iload_n 1, 1) := by decide +kernel
theorem dX7_extend_5 : decode cX7_extend 5 = .ok (.invokevirtual 87, 3) := by decide +kernel
theorem dX7_extend_8 : decode cX7_extend 8 = .ok (.astore 4, 2) := by decide +kernel
theorem dX7_extend_10 : decode cX7_extend 10 = .ok (.aload 4, 2) := by decide +kernel
theorem dX7_extend_12 : decode cX7_extend 12 = .ok (.ifnonnull 6, 3) := by decide +kernel
theorem dX7_extend_15 : decode cX7_extend 15 = .ok (.ldc 91, 2) := by decide +kernel
theorem dX7_extend_17 : decode cX7_extend 17 = .ok (.ireturn, 1) := by decide +kernel
theorem dX7_extend_18 : decode cX7_extend 18 = .ok (.iload_n 2, 1) := by decide +kernel
theorem dX7_extend_19 : decode cX7_extend 19 = .ok (.invokestatic 55, 3) := by decide +kernel
theorem dX7_extend_22 : decode cX7_extend 22 = .ok (.ifCond .eq 10, 3) := by decide +kernel
theorem dX7_extend_25 : decode cX7_extend 25 = .ok (.iload_n 3, 1) := by decide +kernel
theorem dX7_extend_26 : decode cX7_extend 26 = .ok (.invokestatic 55, 3) := by decide +kernel
theorem dX7_extend_29 : decode cX7_extend 29 = .ok (.ifCond .ne 6, 3) := by decide +kernel
theorem dX7_extend_32 : decode cX7_extend 32 = .ok (.ldc 59, 2) := by decide +kernel
theorem dX7_extend_34 : decode cX7_extend 34 = .ok (.ireturn, 1) := by decide +kernel
theorem dX7_extend_35 : decode cX7_extend 35 = .ok (.aload 4, 2) := by decide +kernel
theorem dX7_extend_37 : decode cX7_extend 37 = .ok (.getfield 92, 3) := by decide +kernel
theorem dX7_extend_40 : decode cX7_extend 40 = .ok (.ifCond .eq 6, 3) := by decide +kernel
theorem dX7_extend_43 : decode cX7_extend 43 = .ok (.ldc 96, 2) := by decide +kernel
theorem dX7_extend_45 : decode cX7_extend 45 = .ok (.ireturn, 1) := by decide +kernel
theorem dX7_extend_46 : decode cX7_extend 46 = .ok (.aload 4, 2) := by decide +kernel
theorem dX7_extend_48 : decode cX7_extend 48 = .ok (.getfield 97, 3) := by decide +kernel
theorem dX7_extend_51 : decode cX7_extend 51 = .ok (.bipush 12, 2) := by decide +kernel
theorem dX7_extend_53 : decode cX7_extend 53 = .ok (.if_icmp .lt 6, 3) := by decide +kernel
theorem dX7_extend_56 : decode cX7_extend 56 = .ok (.ldc 68, 2) := by decide +kernel
theorem dX7_extend_58 : decode cX7_extend 58 = .ok (.ireturn, 1) := by decide +kernel
theorem dX7_extend_59 : decode cX7_extend 59 = .ok (.aload 4, 2) := by decide +kernel
theorem dX7_extend_61 : decode cX7_extend 61 = .ok (.iload_n 2, 1) := by decide +kernel
theorem dX7_extend_62 : decode cX7_extend 62 = .ok (.ldc 69, 2) := by decide +kernel
theorem dX7_extend_64 : decode cX7_extend 64 = .ok (.imul, 1) := by decide +kernel
theorem dX7_extend_65 : decode cX7_extend 65 = .ok (.iload_n 3, 1) := by decide +kernel
theorem dX7_extend_66 : decode cX7_extend 66 = .ok (.ldc 69, 2) := by decide +kernel
theorem dX7_extend_68 : decode cX7_extend 68 = .ok (.imul, 1) := by decide +kernel
theorem dX7_extend_69 : decode cX7_extend 69 = .ok (.invokevirtual 70, 3) := by decide +kernel
theorem dX7_extend_72 : decode cX7_extend 72 = .ok (.aload_n 0, 1) := by decide +kernel
theorem dX7_extend_73 : decode cX7_extend 73 = .ok (.aload 4, 2) := by decide +kernel
theorem dX7_extend_75 : decode cX7_extend 75 = .ok (.getfield 97, 3) := by decide +kernel
theorem dX7_extend_78 : decode cX7_extend 78 = .ok (.invokevirtual 83, 3) := by decide +kernel
theorem dX7_extend_81 : decode cX7_extend 81 = .ok (.ireturn, 1) := by decide +kernel
theorem dX7_removePath_0 : decode cX7_removePath 0 = .ok (.aload_n 0, 1) := by decide +kernel
theorem dX7_removePath_1 : decode cX7_removePath 1 = .ok (.invokevirtual 60, 3) := by decide +kernel
theorem dX7_removePath_4 : decode cX7_removePath 4 = .ok (.astore_n 2, 1) := by decide +kernel
theorem dX7_removePath_5 : decode cX7_removePath 5 = .ok (.aload_n 2, 1) := by decide +kernel
theorem dX7_removePath_6 : decode cX7_removePath 6 = .ok (.iload_n 1, 1) := by decide +kernel
theorem dX7_removePath_7 : decode cX7_removePath 7 = .ok (.invokevirtual 87, 3) := by decide +kernel
theorem dX7_removePath_10 : decode cX7_removePath 10 = .ok (.ifnonnull 6, 3) := by decide +kernel
theorem dX7_removePath_13 : decode cX7_removePath 13 = .ok (.ldc 91, 2) := by decide +kernel
theorem dX7_removePath_15 : decode cX7_removePath 15 = .ok (.ireturn, 1) := by decide +kernel
theorem dX7_removePath_16 : decode cX7_removePath 16 = .ok (.aload_n 2, 1) := by decide +kernel
theorem dX7_removePath_17 : decode cX7_removePath 17 = .ok (.iload_n 1, 1) := by decide +kernel
theorem dX7_removePath_18 : decode cX7_removePath 18 = .ok (.invokevirtual 100, 3) := by decide +kernel
theorem dX7_removePath_21 : decode cX7_removePath 21 = .ok (.aload_n 0, 1) := by decide +kernel
theorem dX7_removePath_22 : decode cX7_removePath 22 = .ok (.aload_n 2, 1) := by decide +kernel
theorem dX7_removePath_23 : decode cX7_removePath 23 = .ok (.getfield 79, 3) := by decide +kernel
theorem dX7_removePath_26 : decode cX7_removePath 26 = .ok (.invokevirtual 83, 3) := by decide +kernel
theorem dX7_removePath_29 : decode cX7_removePath 29 = .ok (.ireturn, 1) := by decide +kernel
theorem dX7_moveNode_0 : decode cX7_moveNode 0 = .ok (.aload_n 0, 1) := by decide +kernel
theorem dX7_moveNode_1 : decode cX7_moveNode 1 = .ok (.invokevirtual 60, 3) := by decide +kernel
theorem dX7_moveNode_4 : decode cX7_moveNode 4 = .ok (.iload_n 1, 1) := by decide +kernel
theorem dX7_moveNode_5 : decode cX7_moveNode 5 = .ok (.invokevirtual 87, 3) := by decide +kernel
theorem dX7_moveNode_8 : decode cX7_moveNode 8 = .ok (.astore 5, 2) := by decide +kernel
theorem dX7_moveNode_10 : decode cX7_moveNode 10 = .ok (.aload 5, 2) := by decide +kernel
theorem dX7_moveNode_12 : decode cX7_moveNode 12 = .ok (.ifnull 12, 3) := by decide +kernel
theorem dX7_moveNode_15 : decode cX7_moveNode 15 = .ok (.aload 5, 2) := by decide +kernel
theorem dX7_moveNode_17 : decode cX7_moveNode 17 = .ok (.iload_n 2, 1) := by decide +kernel
theorem dX7_moveNode_18 : decode cX7_moveNode 18 = .ok (.invokevirtual 104, 3) := by decide +kernel
theorem dX7_moveNode_21 : decode cX7_moveNode 21 = .ok (.ifCond .ne 6, 3) := by decide +kernel
theorem dX7_moveNode_24 : decode cX7_moveNode 24 = .ok (.ldc 91, 2) := by decide +kernel
theorem dX7_moveNode_26 : decode cX7_moveNode 26 = .ok (.ireturn, 1) := by decide +kernel
theorem dX7_moveNode_27 : decode cX7_moveNode 27 = .ok (.iload_n 3, 1) := by decide +kernel
theorem dX7_moveNode_28 : decode cX7_moveNode 28 = .ok (.invokestatic 55, 3) := by decide +kernel
theorem dX7_moveNode_31 : decode cX7_moveNode 31 = .ok (.ifCond .eq 11, 3) := by decide +kernel
theorem dX7_moveNode_34 : decode cX7_moveNode 34 = .ok (.iload 4, 2) := by decide +kernel
theorem dX7_moveNode_36 : decode cX7_moveNode 36 = .ok (.invokestatic 55, 3) := by decide +kernel
theorem dX7_moveNode_39 : decode cX7_moveNode 39 = .ok (.ifCond .ne 6, 3) := by decide +kernel
theorem dX7_moveNode_42 : decode cX7_moveNode 42 = .ok (.ldc 59, 2) := by decide +kernel
theorem dX7_moveNode_44 : decode cX7_moveNode 44 = .ok (.ireturn, 1) := by decide +kernel
theorem dX7_moveNode_45 : decode cX7_moveNode 45 = .ok (.aload 5, 2) := by decide +kernel
theorem dX7_moveNode_47 : decode cX7_moveNode 47 = .ok (.iload_n 2, 1) := by decide +kernel
theorem dX7_moveNode_48 : decode cX7_moveNode 48 = .ok (.iload_n 3, 1) := by decide +kernel
theorem dX7_moveNode_49 : decode cX7_moveNode 49 = .ok (.ldc 69, 2) := by decide +kernel
theorem dX7_moveNode_51 : decode cX7_moveNode 51 = .ok (.imul, 1) := by decide +kernel
theorem dX7_moveNode_52 : decode cX7_moveNode 52 = .ok (.iload 4, 2) := by decide +kernel
theorem dX7_moveNode_54 : decode cX7_moveNode 54 = .ok (.ldc 69, 2) := by decide +kernel
theorem dX7_moveNode_56 : decode cX7_moveNode 56 = .ok (.imul, 1) := by decide +kernel
theorem dX7_moveNode_57 : decode cX7_moveNode 57 = .ok (.aload_n 0, 1) := by decide +kernel
theorem dX7_moveNode_58 : decode cX7_moveNode 58 = .ok (.getfield 29, 3) := by decide +kernel
theorem dX7_moveNode_61 : decode cX7_moveNode 61 = .ok (.invokevirtual 107, 3) := by decide +kernel
theorem dX7_moveNode_64 : decode cX7_moveNode 64 = .ok (.aload_n 0, 1) := by decide +kernel
theorem dX7_moveNode_65 : decode cX7_moveNode 65 = .ok (.aload 5, 2) := by decide +kernel
theorem dX7_moveNode_67 : decode cX7_moveNode 67 = .ok (.iload_n 2, 1) := by decide +kernel
theorem dX7_moveNode_68 : decode cX7_moveNode 68 = .ok (.iconst 0, 1) := by decide +kernel
theorem dX7_moveNode_69 : decode cX7_moveNode 69 = .ok (.invokevirtual 111, 3) := by decide +kernel
theorem dX7_moveNode_72 : decode cX7_moveNode 72 = .ok (.invokevirtual 83, 3) := by decide +kernel
theorem dX7_moveNode_75 : decode cX7_moveNode 75 = .ok (.ireturn, 1) := by decide +kernel
theorem dX7_setHandle_0 : decode cX7_setHandle 0 = .ok (.aload_n 0, 1) := by decide +kernel
theorem dX7_setHandle_1 : decode cX7_setHandle 1 = .ok (.invokevirtual 60, 3) := by decide +kernel
theorem dX7_setHandle_4 : decode cX7_setHandle 4 = .ok (.iload_n 1, 1) := by decide +kernel
theorem dX7_setHandle_5 : decode cX7_setHandle 5 = .ok (.invokevirtual 87, 3) := by decide +kernel
theorem dX7_setHandle_8 : decode cX7_setHandle 8 = .ok (.astore 6, 2) := by decide +kernel
theorem dX7_setHandle_10 : decode cX7_setHandle 10 = .ok (.aload 6, 2) := by decide +kernel
theorem dX7_setHandle_12 : decode cX7_setHandle 12 = .ok (.ifnull 12, 3) := by decide +kernel
theorem dX7_setHandle_15 : decode cX7_setHandle 15 = .ok (.aload 6, 2) := by decide +kernel
theorem dX7_setHandle_17 : decode cX7_setHandle 17 = .ok (.iload_n 2, 1) := by decide +kernel
theorem dX7_setHandle_18 : decode cX7_setHandle 18 = .ok (.invokevirtual 104, 3) := by decide +kernel
theorem dX7_setHandle_21 : decode cX7_setHandle 21 = .ok (.ifCond .ne 6, 3) := by decide +kernel
theorem dX7_setHandle_24 : decode cX7_setHandle 24 = .ok (.ldc 91, 2) := by decide +kernel
theorem dX7_setHandle_26 : decode cX7_setHandle 26 = .ok (.ireturn, 1) := by decide +kernel
theorem dX7_setHandle_27 : decode cX7_setHandle 27 = .ok (.iload 4, 2) := by decide +kernel
theorem dX7_setHandle_29 : decode cX7_setHandle 29 = .ok (.invokestatic 55, 3) := by decide +kernel
theorem dX7_setHandle_32 : decode cX7_setHandle 32 = .ok (.ifCond .eq 11, 3) := by decide +kernel
theorem dX7_setHandle_35 : decode cX7_setHandle 35 = .ok (.iload 5, 2) := by decide +kernel
theorem dX7_setHandle_37 : decode cX7_setHandle 37 = .ok (.invokestatic 55, 3) := by decide +kernel
theorem dX7_setHandle_40 : decode cX7_setHandle 40 = .ok (.ifCond .ne 6, 3) := by decide +kernel
theorem dX7_setHandle_43 : decode cX7_setHandle 43 = .ok (.ldc 59, 2) := by decide +kernel
theorem dX7_setHandle_45 : decode cX7_setHandle 45 = .ok (.ireturn, 1) := by decide +kernel
theorem dX7_setHandle_46 : decode cX7_setHandle 46 = .ok (.iload_n 3, 1) := by decide +kernel
theorem dX7_setHandle_47 : decode cX7_setHandle 47 = .ok (.ifCond .eq 7, 3) := by decide +kernel
theorem dX7_setHandle_50 : decode cX7_setHandle 50 = .ok (.iconst 4, 1) := by decide +kernel
theorem dX7_setHandle_51 : decode cX7_setHandle 51 = .ok (.goto 4, 3) := by decide +kernel
theorem dX7_setHandle_54 : decode cX7_setHandle 54 = .ok (.iconst 2, 1) := by decide +kernel
theorem dX7_setHandle_55 : decode cX7_setHandle 55 = .ok (.istore 7, 2) := by decide +kernel
theorem dX7_setHandle_57 : decode cX7_setHandle 57 = .ok (.aload 6, 2) := by decide +kernel
theorem dX7_setHandle_59 : decode cX7_setHandle 59 = .ok (.iload_n 2, 1) := by decide +kernel
theorem dX7_setHandle_60 : decode cX7_setHandle 60 = .ok (.iload 7, 2) := by decide +kernel
theorem dX7_setHandle_62 : decode cX7_setHandle 62 = .ok (.iload 4, 2) := by decide +kernel
theorem dX7_setHandle_64 : decode cX7_setHandle 64 = .ok (.ldc 69, 2) := by decide +kernel
theorem dX7_setHandle_66 : decode cX7_setHandle 66 = .ok (.imul, 1) := by decide +kernel
theorem dX7_setHandle_67 : decode cX7_setHandle 67 = .ok (.invokevirtual 115, 3) := by decide +kernel
theorem dX7_setHandle_70 : decode cX7_setHandle 70 = .ok (.aload 6, 2) := by decide +kernel
theorem dX7_setHandle_72 : decode cX7_setHandle 72 = .ok (.iload_n 2, 1) := by decide +kernel
theorem dX7_setHandle_73 : decode cX7_setHandle 73 = .ok (.iload 7, 2) := by decide +kernel
theorem dX7_setHandle_75 : decode cX7_setHandle 75 = .ok (.iconst 1, 1) := by decide +kernel
theorem dX7_setHandle_76 : decode cX7_setHandle 76 = .ok (.iadd, 1) := by decide +kernel
theorem dX7_setHandle_77 : decode cX7_setHandle 77 = .ok (.iload 5, 2) := by decide +kernel
theorem dX7_setHandle_79 : decode cX7_setHandle 79 = .ok (.ldc 69, 2) := by decide +kernel
theorem dX7_setHandle_81 : decode cX7_setHandle 81 = .ok (.imul, 1) := by decide +kernel
theorem dX7_setHandle_82 : decode cX7_setHandle 82 = .ok (.invokevirtual 115, 3) := by decide +kernel
theorem dX7_setHandle_85 : decode cX7_setHandle 85 = .ok (.aload 6, 2) := by decide +kernel
theorem dX7_setHandle_87 : decode cX7_setHandle 87 = .ok (.iload_n 2, 1) := by decide +kernel
theorem dX7_setHandle_88 : decode cX7_setHandle 88 = .ok (.invokevirtual 119, 3) := by decide +kernel
theorem dX7_setHandle_91 : decode cX7_setHandle 91 = .ok (.istore 8, 2) := by decide +kernel
theorem dX7_setHandle_93 : decode cX7_setHandle 93 = .ok (.iload 8, 2) := by decide +kernel
theorem dX7_setHandle_95 : decode cX7_setHandle 95 = .ok (.ifCond .eq 22, 3) := by decide +kernel
theorem dX7_setHandle_98 : decode cX7_setHandle 98 = .ok (.aload 6, 2) := by decide +kernel
theorem dX7_setHandle_100 : decode cX7_setHandle 100 = .ok (.iload_n 2, 1) := by decide +kernel
theorem dX7_setHandle_101 : decode cX7_setHandle 101 = .ok (.iload_n 3, 1) := by decide +kernel
theorem dX7_setHandle_102 : decode cX7_setHandle 102 = .ok (.ifCond .ne 7, 3) := by decide +kernel
theorem dX7_setHandle_105 : decode cX7_setHandle 105 = .ok (.iconst 1, 1) := by decide +kernel
theorem dX7_setHandle_106 : decode cX7_setHandle 106 = .ok (.goto 4, 3) := by decide +kernel
theorem dX7_setHandle_109 : decode cX7_setHandle 109 = .ok (.iconst 0, 1) := by decide +kernel
theorem dX7_setHandle_110 : decode cX7_setHandle 110 = .ok (.aload_n 0, 1) := by decide +kernel
theorem dX7_setHandle_111 : decode cX7_setHandle 111 = .ok (.getfield 29, 3) := by decide +kernel
theorem dX7_setHandle_114 : decode cX7_setHandle 114 = .ok (.invokevirtual 122, 3) := by decide +kernel
theorem dX7_setHandle_117 : decode cX7_setHandle 117 = .ok (.aload_n 0, 1) := by decide +kernel
theorem dX7_setHandle_118 : decode cX7_setHandle 118 = .ok (.iload 8, 2) := by decide +kernel
theorem dX7_setHandle_120 : decode cX7_setHandle 120 = .ok (.ifCond .eq 7, 3) := by decide +kernel
theorem dX7_setHandle_123 : decode cX7_setHandle 123 = .ok (.iconst 1, 1) := by decide +kernel
theorem dX7_setHandle_124 : decode cX7_setHandle 124 = .ok (.goto 4, 3) := by decide +kernel
theorem dX7_setHandle_127 : decode cX7_setHandle 127 = .ok (.iconst 0, 1) := by decide +kernel
theorem dX7_setHandle_128 : decode cX7_setHandle 128 = .ok (.invokevirtual 83, 3) := by decide +kernel
theorem dX7_setHandle_131 : decode cX7_setHandle 131 = .ok (.ireturn, 1) := by decide +kernel
theorem dX7_setSmooth_0 : decode cX7_setSmooth 0 = .ok (.aload_n 0, 1) := by decide +kernel
theorem dX7_setSmooth_1 : decode cX7_setSmooth 1 = .ok (.invokevirtual 60, 3) := by decide +kernel
theorem dX7_setSmooth_4 : decode cX7_setSmooth 4 = .ok (.iload_n 1, 1) := by decide +kernel
theorem dX7_setSmooth_5 : decode cX7_setSmooth 5 = .ok (.invokevirtual 87, 3) := by decide +kernel
theorem dX7_setSmooth_8 : decode cX7_setSmooth 8 = .ok (.astore 5, 2) := by decide +kernel
theorem dX7_setSmooth_10 : decode cX7_setSmooth 10 = .ok (.aload 5, 2) := by decide +kernel
theorem dX7_setSmooth_12 : decode cX7_setSmooth 12 = .ok (.ifnull 12, 3) := by decide +kernel
theorem dX7_setSmooth_15 : decode cX7_setSmooth 15 = .ok (.aload 5, 2) := by decide +kernel
theorem dX7_setSmooth_17 : decode cX7_setSmooth 17 = .ok (.iload_n 2, 1) := by decide +kernel
theorem dX7_setSmooth_18 : decode cX7_setSmooth 18 = .ok (.invokevirtual 104, 3) := by decide +kernel
theorem dX7_setSmooth_21 : decode cX7_setSmooth 21 = .ok (.ifCond .ne 6, 3) := by decide +kernel
theorem dX7_setSmooth_24 : decode cX7_setSmooth 24 = .ok (.ldc 91, 2) := by decide +kernel
theorem dX7_setSmooth_26 : decode cX7_setSmooth 26 = .ok (.ireturn, 1) := by decide +kernel
theorem dX7_setSmooth_27 : decode cX7_setSmooth 27 = .ok (.iload_n 3, 1) := by decide +kernel
theorem dX7_setSmooth_28 : decode cX7_setSmooth 28 = .ok (.iconst 1, 1) := by decide +kernel
theorem dX7_setSmooth_29 : decode cX7_setSmooth 29 = .ok (.sipush 999, 3) := by decide +kernel
theorem dX7_setSmooth_32 : decode cX7_setSmooth 32 = .ok (.invokestatic 126, 3) := by decide +kernel
theorem dX7_setSmooth_35 : decode cX7_setSmooth 35 = .ok (.ifCond .eq 15, 3) := by decide +kernel
theorem dX7_setSmooth_38 : decode cX7_setSmooth 38 = .ok (.iload 4, 2) := by decide +kernel
theorem dX7_setSmooth_40 : decode cX7_setSmooth 40 = .ok (.iconst 1, 1) := by decide +kernel
theorem dX7_setSmooth_41 : decode cX7_setSmooth 41 = .ok (.sipush 999, 3) := by decide +kernel
theorem dX7_setSmooth_44 : decode cX7_setSmooth 44 = .ok (.invokestatic 126, 3) := by decide +kernel
theorem dX7_setSmooth_47 : decode cX7_setSmooth 47 = .ok (.ifCond .ne 6, 3) := by decide +kernel
theorem dX7_setSmooth_50 : decode cX7_setSmooth 50 = .ok (.ldc 59, 2) := by decide +kernel
theorem dX7_setSmooth_52 : decode cX7_setSmooth 52 = .ok (.ireturn, 1) := by decide +kernel
theorem dX7_setSmooth_53 : decode cX7_setSmooth 53 = .ok (.aload 5, 2) := by decide +kernel
theorem dX7_setSmooth_55 : decode cX7_setSmooth 55 = .ok (.iload_n 2, 1) := by decide +kernel
theorem dX7_setSmooth_56 : decode cX7_setSmooth 56 = .ok (.invokevirtual 119, 3) := by decide +kernel
theorem dX7_setSmooth_59 : decode cX7_setSmooth 59 = .ok (.istore 6, 2) := by decide +kernel
theorem dX7_setSmooth_61 : decode cX7_setSmooth 61 = .ok (.aload 5, 2) := by decide +kernel
theorem dX7_setSmooth_63 : decode cX7_setSmooth 63 = .ok (.iload_n 2, 1) := by decide +kernel
theorem dX7_setSmooth_64 : decode cX7_setSmooth 64 = .ok (.iload_n 3, 1) := by decide +kernel
theorem dX7_setSmooth_65 : decode cX7_setSmooth 65 = .ok (.iload 4, 2) := by decide +kernel
theorem dX7_setSmooth_67 : decode cX7_setSmooth 67 = .ok (.invokevirtual 130, 3) := by decide +kernel
theorem dX7_setSmooth_70 : decode cX7_setSmooth 70 = .ok (.aload 5, 2) := by decide +kernel
theorem dX7_setSmooth_72 : decode cX7_setSmooth 72 = .ok (.iload_n 2, 1) := by decide +kernel
theorem dX7_setSmooth_73 : decode cX7_setSmooth 73 = .ok (.aload 5, 2) := by decide +kernel
theorem dX7_setSmooth_75 : decode cX7_setSmooth 75 = .ok (.iload_n 2, 1) := by decide +kernel
theorem dX7_setSmooth_76 : decode cX7_setSmooth 76 = .ok (.iconst 4, 1) := by decide +kernel
theorem dX7_setSmooth_77 : decode cX7_setSmooth 77 = .ok (.invokevirtual 133, 3) := by decide +kernel
theorem dX7_setSmooth_80 : decode cX7_setSmooth 80 = .ok (.aload_n 0, 1) := by decide +kernel
theorem dX7_setSmooth_81 : decode cX7_setSmooth 81 = .ok (.getfield 29, 3) := by decide +kernel
theorem dX7_setSmooth_84 : decode cX7_setSmooth 84 = .ok (.invokevirtual 122, 3) := by decide +kernel
theorem dX7_setSmooth_87 : decode cX7_setSmooth 87 = .ok (.aload_n 0, 1) := by decide +kernel
theorem dX7_setSmooth_88 : decode cX7_setSmooth 88 = .ok (.iload 6, 2) := by decide +kernel
theorem dX7_setSmooth_90 : decode cX7_setSmooth 90 = .ok (.ifCond .eq 7, 3) := by decide +kernel
theorem dX7_setSmooth_93 : decode cX7_setSmooth 93 = .ok (.iconst 1, 1) := by decide +kernel
theorem dX7_setSmooth_94 : decode cX7_setSmooth 94 = .ok (.goto 4, 3) := by decide +kernel
theorem dX7_setSmooth_97 : decode cX7_setSmooth 97 = .ok (.iconst 0, 1) := by decide +kernel
theorem dX7_setSmooth_98 : decode cX7_setSmooth 98 = .ok (.invokevirtual 83, 3) := by decide +kernel
theorem dX7_setSmooth_101 : decode cX7_setSmooth 101 = .ok (.ireturn, 1) := by decide +kernel
theorem dX7_setCorner_0 : decode cX7_setCorner 0 = .ok (.aload_n 0, 1) := by decide +kernel
theorem dX7_setCorner_1 : decode cX7_setCorner 1 = .ok (.invokevirtual 60, 3) := by decide +kernel
theorem dX7_setCorner_4 : decode cX7_setCorner 4 = .ok (.iload_n 1, 1) := by decide +kernel
theorem dX7_setCorner_5 : decode cX7_setCorner 5 = .ok (.invokevirtual 87, 3) := by decide +kernel
theorem dX7_setCorner_8 : decode cX7_setCorner 8 = .ok (.astore_n 3, 1) := by decide +kernel
theorem dX7_setCorner_9 : decode cX7_setCorner 9 = .ok (.aload_n 3, 1) := by decide +kernel
theorem dX7_setCorner_10 : decode cX7_setCorner 10 = .ok (.ifnull 11, 3) := by decide +kernel
theorem dX7_setCorner_13 : decode cX7_setCorner 13 = .ok (.aload_n 3, 1) := by decide +kernel
theorem dX7_setCorner_14 : decode cX7_setCorner 14 = .ok (.iload_n 2, 1) := by decide +kernel
theorem dX7_setCorner_15 : decode cX7_setCorner 15 = .ok (.invokevirtual 104, 3) := by decide +kernel
theorem dX7_setCorner_18 : decode cX7_setCorner 18 = .ok (.ifCond .ne 6, 3) := by decide +kernel
theorem dX7_setCorner_21 : decode cX7_setCorner 21 = .ok (.ldc 91, 2) := by decide +kernel
theorem dX7_setCorner_23 : decode cX7_setCorner 23 = .ok (.ireturn, 1) := by decide +kernel
theorem dX7_setCorner_24 : decode cX7_setCorner 24 = .ok (.aload_n 3, 1) := by decide +kernel
theorem dX7_setCorner_25 : decode cX7_setCorner 25 = .ok (.iload_n 2, 1) := by decide +kernel
theorem dX7_setCorner_26 : decode cX7_setCorner 26 = .ok (.invokevirtual 119, 3) := by decide +kernel
theorem dX7_setCorner_29 : decode cX7_setCorner 29 = .ok (.istore 4, 2) := by decide +kernel
theorem dX7_setCorner_31 : decode cX7_setCorner 31 = .ok (.aload_n 3, 1) := by decide +kernel
theorem dX7_setCorner_32 : decode cX7_setCorner 32 = .ok (.iload_n 2, 1) := by decide +kernel
theorem dX7_setCorner_33 : decode cX7_setCorner 33 = .ok (.invokevirtual 137, 3) := by decide +kernel
theorem dX7_setCorner_36 : decode cX7_setCorner 36 = .ok (.aload_n 0, 1) := by decide +kernel
theorem dX7_setCorner_37 : decode cX7_setCorner 37 = .ok (.iload 4, 2) := by decide +kernel
theorem dX7_setCorner_39 : decode cX7_setCorner 39 = .ok (.ifCond .eq 7, 3) := by decide +kernel
theorem dX7_setCorner_42 : decode cX7_setCorner 42 = .ok (.iconst 1, 1) := by decide +kernel
theorem dX7_setCorner_43 : decode cX7_setCorner 43 = .ok (.goto 4, 3) := by decide +kernel
theorem dX7_setCorner_46 : decode cX7_setCorner 46 = .ok (.iconst 0, 1) := by decide +kernel
theorem dX7_setCorner_47 : decode cX7_setCorner 47 = .ok (.invokevirtual 83, 3) := by decide +kernel
theorem dX7_setCorner_50 : decode cX7_setCorner 50 = .ok (.ireturn, 1) := by decide +kernel
theorem dX7_insert_0 : decode cX7_insert 0 = .ok (.aload_n 0, 1) := by decide +kernel
theorem dX7_insert_1 : decode cX7_insert 1 = .ok (.invokevirtual 60, 3) := by decide +kernel
theorem dX7_insert_4 : decode cX7_insert 4 = .ok (.iload_n 1, 1) := by decide +kernel
theorem dX7_insert_5 : decode cX7_insert 5 = .ok (.invokevirtual 87, 3) := by decide +kernel
theorem dX7_insert_8 : decode cX7_insert 8 = .ok (.astore 5, 2) := by decide +kernel
theorem dX7_insert_10 : decode cX7_insert 10 = .ok (.aload 5, 2) := by decide +kernel
theorem dX7_insert_12 : decode cX7_insert 12 = .ok (.ifnull 12, 3) := by decide +kernel
theorem dX7_insert_15 : decode cX7_insert 15 = .ok (.aload 5, 2) := by decide +kernel
theorem dX7_insert_17 : decode cX7_insert 17 = .ok (.iload_n 2, 1) := by decide +kernel
theorem dX7_insert_18 : decode cX7_insert 18 = .ok (.invokevirtual 140, 3) := by decide +kernel
theorem dX7_insert_21 : decode cX7_insert 21 = .ok (.ifCond .ne 6, 3) := by decide +kernel
theorem dX7_insert_24 : decode cX7_insert 24 = .ok (.ldc 91, 2) := by decide +kernel
theorem dX7_insert_26 : decode cX7_insert 26 = .ok (.ireturn, 1) := by decide +kernel
theorem dX7_insert_27 : decode cX7_insert 27 = .ok (.iload 4, 2) := by decide +kernel
theorem dX7_insert_29 : decode cX7_insert 29 = .ok (.iconst 2, 1) := by decide +kernel
theorem dX7_insert_30 : decode cX7_insert 30 = .ok (.bipush 6, 2) := by decide +kernel
theorem dX7_insert_32 : decode cX7_insert 32 = .ok (.invokestatic 126, 3) := by decide +kernel
theorem dX7_insert_35 : decode cX7_insert 35 = .ok (.ifCond .eq 15, 3) := by decide +kernel
theorem dX7_insert_38 : decode cX7_insert 38 = .ok (.iload_n 3, 1) := by decide +kernel
theorem dX7_insert_39 : decode cX7_insert 39 = .ok (.iconst 1, 1) := by decide +kernel
theorem dX7_insert_40 : decode cX7_insert 40 = .ok (.iload 4, 2) := by decide +kernel
theorem dX7_insert_42 : decode cX7_insert 42 = .ok (.iconst 1, 1) := by decide +kernel
theorem dX7_insert_43 : decode cX7_insert 43 = .ok (.isub, 1) := by decide +kernel
theorem dX7_insert_44 : decode cX7_insert 44 = .ok (.invokestatic 126, 3) := by decide +kernel
theorem dX7_insert_47 : decode cX7_insert 47 = .ok (.ifCond .ne 6, 3) := by decide +kernel
theorem dX7_insert_50 : decode cX7_insert 50 = .ok (.ldc 59, 2) := by decide +kernel
theorem dX7_insert_52 : decode cX7_insert 52 = .ok (.ireturn, 1) := by decide +kernel
theorem dX7_insert_53 : decode cX7_insert 53 = .ok (.aload 5, 2) := by decide +kernel
theorem dX7_insert_55 : decode cX7_insert 55 = .ok (.getfield 97, 3) := by decide +kernel
theorem dX7_insert_58 : decode cX7_insert 58 = .ok (.bipush 12, 2) := by decide +kernel
theorem dX7_insert_60 : decode cX7_insert 60 = .ok (.if_icmp .lt 6, 3) := by decide +kernel
theorem dX7_insert_63 : decode cX7_insert 63 = .ok (.ldc 68, 2) := by decide +kernel
theorem dX7_insert_65 : decode cX7_insert 65 = .ok (.ireturn, 1) := by decide +kernel
theorem dX7_insert_66 : decode cX7_insert 66 = .ok (.aload 5, 2) := by decide +kernel
theorem dX7_insert_68 : decode cX7_insert 68 = .ok (.iload_n 2, 1) := by decide +kernel
theorem dX7_insert_69 : decode cX7_insert 69 = .ok (.iload_n 3, 1) := by decide +kernel
theorem dX7_insert_70 : decode cX7_insert 70 = .ok (.iload 4, 2) := by decide +kernel
theorem dX7_insert_72 : decode cX7_insert 72 = .ok (.aload_n 0, 1) := by decide +kernel
theorem dX7_insert_73 : decode cX7_insert 73 = .ok (.getfield 36, 3) := by decide +kernel
theorem dX7_insert_76 : decode cX7_insert 76 = .ok (.aload_n 0, 1) := by decide +kernel
theorem dX7_insert_77 : decode cX7_insert 77 = .ok (.getfield 29, 3) := by decide +kernel
theorem dX7_insert_80 : decode cX7_insert 80 = .ok (.invokevirtual 143, 3) := by decide +kernel
theorem dX7_insert_83 : decode cX7_insert 83 = .ok (.aload_n 0, 1) := by decide +kernel
theorem dX7_insert_84 : decode cX7_insert 84 = .ok (.iload_n 2, 1) := by decide +kernel
theorem dX7_insert_85 : decode cX7_insert 85 = .ok (.iconst 1, 1) := by decide +kernel
theorem dX7_insert_86 : decode cX7_insert 86 = .ok (.iadd, 1) := by decide +kernel
theorem dX7_insert_87 : decode cX7_insert 87 = .ok (.invokevirtual 83, 3) := by decide +kernel
theorem dX7_insert_90 : decode cX7_insert 90 = .ok (.ireturn, 1) := by decide +kernel
theorem dX7_removeNode_0 : decode cX7_removeNode 0 = .ok (.aload_n 0, 1) := by decide +kernel
theorem dX7_removeNode_1 : decode cX7_removeNode 1 = .ok (.invokevirtual 60, 3) := by decide +kernel
theorem dX7_removeNode_4 : decode cX7_removeNode 4 = .ok (.astore_n 3, 1) := by decide +kernel
theorem dX7_removeNode_5 : decode cX7_removeNode 5 = .ok (.aload_n 3, 1) := by decide +kernel
theorem dX7_removeNode_6 : decode cX7_removeNode 6 = .ok (.iload_n 1, 1) := by decide +kernel
theorem dX7_removeNode_7 : decode cX7_removeNode 7 = .ok (.invokevirtual 87, 3) := by decide +kernel
theorem dX7_removeNode_10 : decode cX7_removeNode 10 = .ok (.astore 4, 2) := by decide +kernel
theorem dX7_removeNode_12 : decode cX7_removeNode 12 = .ok (.aload 4, 2) := by decide +kernel
theorem dX7_removeNode_14 : decode cX7_removeNode 14 = .ok (.ifnull 12, 3) := by decide +kernel
theorem dX7_removeNode_17 : decode cX7_removeNode 17 = .ok (.aload 4, 2) := by decide +kernel
theorem dX7_removeNode_19 : decode cX7_removeNode 19 = .ok (.iload_n 2, 1) := by decide +kernel
theorem dX7_removeNode_20 : decode cX7_removeNode 20 = .ok (.invokevirtual 104, 3) := by decide +kernel
theorem dX7_removeNode_23 : decode cX7_removeNode 23 = .ok (.ifCond .ne 6, 3) := by decide +kernel
theorem dX7_removeNode_26 : decode cX7_removeNode 26 = .ok (.ldc 91, 2) := by decide +kernel
theorem dX7_removeNode_28 : decode cX7_removeNode 28 = .ok (.ireturn, 1) := by decide +kernel
theorem dX7_removeNode_29 : decode cX7_removeNode 29 = .ok (.aload 4, 2) := by decide +kernel
theorem dX7_removeNode_31 : decode cX7_removeNode 31 = .ok (.iload_n 2, 1) := by decide +kernel
theorem dX7_removeNode_32 : decode cX7_removeNode 32 = .ok (.invokevirtual 147, 3) := by decide +kernel
theorem dX7_removeNode_35 : decode cX7_removeNode 35 = .ok (.aload 4, 2) := by decide +kernel
theorem dX7_removeNode_37 : decode cX7_removeNode 37 = .ok (.getfield 97, 3) := by decide +kernel
theorem dX7_removeNode_40 : decode cX7_removeNode 40 = .ok (.istore 5, 2) := by decide +kernel
theorem dX7_removeNode_42 : decode cX7_removeNode 42 = .ok (.iload 5, 2) := by decide +kernel
theorem dX7_removeNode_44 : decode cX7_removeNode 44 = .ok (.iconst 2, 1) := by decide +kernel
theorem dX7_removeNode_45 : decode cX7_removeNode 45 = .ok (.if_icmp .ge 9, 3) := by decide +kernel
theorem dX7_removeNode_48 : decode cX7_removeNode 48 = .ok (.aload 4, 2) := by decide +kernel
theorem dX7_removeNode_50 : decode cX7_removeNode 50 = .ok (.iconst 0, 1) := by decide +kernel
theorem dX7_removeNode_51 : decode cX7_removeNode 51 = .ok (.putfield 92, 3) := by decide +kernel
theorem dX7_removeNode_54 : decode cX7_removeNode 54 = .ok (.iload 5, 2) := by decide +kernel
theorem dX7_removeNode_56 : decode cX7_removeNode 56 = .ok (.ifCond .ne 8, 3) := by decide +kernel
theorem dX7_removeNode_59 : decode cX7_removeNode 59 = .ok (.aload_n 3, 1) := by decide +kernel
theorem dX7_removeNode_60 : decode cX7_removeNode 60 = .ok (.iload_n 1, 1) := by decide +kernel
theorem dX7_removeNode_61 : decode cX7_removeNode 61 = .ok (.invokevirtual 100, 3) := by decide +kernel
theorem dX7_removeNode_64 : decode cX7_removeNode 64 = .ok (.aload_n 0, 1) := by decide +kernel
theorem dX7_removeNode_65 : decode cX7_removeNode 65 = .ok (.iload 5, 2) := by decide +kernel
theorem dX7_removeNode_67 : decode cX7_removeNode 67 = .ok (.invokevirtual 83, 3) := by decide +kernel
theorem dX7_removeNode_70 : decode cX7_removeNode 70 = .ok (.ireturn, 1) := by decide +kernel
theorem dX7_split_0 : decode cX7_split 0 = .ok (.aload_n 0, 1) := by decide +kernel
theorem dX7_split_1 : decode cX7_split 1 = .ok (.invokevirtual 60, 3) := by decide +kernel
theorem dX7_split_4 : decode cX7_split 4 = .ok (.astore_n 3, 1) := by decide +kernel
theorem dX7_split_5 : decode cX7_split 5 = .ok (.aload_n 3, 1) := by decide +kernel
theorem dX7_split_6 : decode cX7_split 6 = .ok (.iload_n 1, 1) := by decide +kernel
theorem dX7_split_7 : decode cX7_split 7 = .ok (.invokevirtual 87, 3) := by decide +kernel
theorem dX7_split_10 : decode cX7_split 10 = .ok (.astore 4, 2) := by decide +kernel
theorem dX7_split_12 : decode cX7_split 12 = .ok (.aload 4, 2) := by decide +kernel
theorem dX7_split_14 : decode cX7_split 14 = .ok (.ifnull 12, 3) := by decide +kernel
theorem dX7_split_17 : decode cX7_split 17 = .ok (.aload 4, 2) := by decide +kernel
theorem dX7_split_19 : decode cX7_split 19 = .ok (.iload_n 2, 1) := by decide +kernel
theorem dX7_split_20 : decode cX7_split 20 = .ok (.invokevirtual 104, 3) := by decide +kernel
theorem dX7_split_23 : decode cX7_split 23 = .ok (.ifCond .ne 6, 3) := by decide +kernel
theorem dX7_split_26 : decode cX7_split 26 = .ok (.ldc 91, 2) := by decide +kernel
theorem dX7_split_28 : decode cX7_split 28 = .ok (.ireturn, 1) := by decide +kernel
theorem dX7_split_29 : decode cX7_split 29 = .ok (.aload 4, 2) := by decide +kernel
theorem dX7_split_31 : decode cX7_split 31 = .ok (.iload_n 2, 1) := by decide +kernel
theorem dX7_split_32 : decode cX7_split 32 = .ok (.invokevirtual 150, 3) := by decide +kernel
theorem dX7_split_35 : decode cX7_split 35 = .ok (.ifCond .ne 6, 3) := by decide +kernel
theorem dX7_split_38 : decode cX7_split 38 = .ok (.ldc 96, 2) := by decide +kernel
theorem dX7_split_40 : decode cX7_split 40 = .ok (.ireturn, 1) := by decide +kernel
theorem dX7_split_41 : decode cX7_split 41 = .ok (.aload 4, 2) := by decide +kernel
theorem dX7_split_43 : decode cX7_split 43 = .ok (.getfield 92, 3) := by decide +kernel
theorem dX7_split_46 : decode cX7_split 46 = .ok (.ifCond .eq 25, 3) := by decide +kernel
theorem dX7_split_49 : decode cX7_split 49 = .ok (.aload 4, 2) := by decide +kernel
theorem dX7_split_51 : decode cX7_split 51 = .ok (.getfield 97, 3) := by decide +kernel
theorem dX7_split_54 : decode cX7_split 54 = .ok (.bipush 12, 2) := by decide +kernel
theorem dX7_split_56 : decode cX7_split 56 = .ok (.if_icmp .lt 6, 3) := by decide +kernel
theorem dX7_split_59 : decode cX7_split 59 = .ok (.ldc 68, 2) := by decide +kernel
theorem dX7_split_61 : decode cX7_split 61 = .ok (.ireturn, 1) := by decide +kernel
theorem dX7_split_62 : decode cX7_split 62 = .ok (.aload 4, 2) := by decide +kernel
theorem dX7_split_64 : decode cX7_split 64 = .ok (.iload_n 2, 1) := by decide +kernel
theorem dX7_split_65 : decode cX7_split 65 = .ok (.invokevirtual 153, 3) := by decide +kernel
theorem dX7_split_68 : decode cX7_split 68 = .ok (.goto 25, 3) := by decide +kernel
theorem dX7_split_71 : decode cX7_split 71 = .ok (.aload_n 3, 1) := by decide +kernel
theorem dX7_split_72 : decode cX7_split 72 = .ok (.invokevirtual 64, 3) := by decide +kernel
theorem dX7_split_75 : decode cX7_split 75 = .ok (.astore 5, 2) := by decide +kernel
theorem dX7_split_77 : decode cX7_split 77 = .ok (.aload 5, 2) := by decide +kernel
theorem dX7_split_79 : decode cX7_split 79 = .ok (.ifnonnull 6, 3) := by decide +kernel
theorem dX7_split_82 : decode cX7_split 82 = .ok (.ldc 68, 2) := by decide +kernel
theorem dX7_split_84 : decode cX7_split 84 = .ok (.ireturn, 1) := by decide +kernel
theorem dX7_split_85 : decode cX7_split 85 = .ok (.aload 4, 2) := by decide +kernel
theorem dX7_split_87 : decode cX7_split 87 = .ok (.iload_n 2, 1) := by decide +kernel
theorem dX7_split_88 : decode cX7_split 88 = .ok (.aload 5, 2) := by decide +kernel
theorem dX7_split_90 : decode cX7_split 90 = .ok (.invokevirtual 156, 3) := by decide +kernel
theorem dX7_split_93 : decode cX7_split 93 = .ok (.aload_n 0, 1) := by decide +kernel
theorem dX7_split_94 : decode cX7_split 94 = .ok (.aload_n 3, 1) := by decide +kernel
theorem dX7_split_95 : decode cX7_split 95 = .ok (.getfield 79, 3) := by decide +kernel
theorem dX7_split_98 : decode cX7_split 98 = .ok (.invokevirtual 83, 3) := by decide +kernel
theorem dX7_split_101 : decode cX7_split 101 = .ok (.ireturn, 1) := by decide +kernel
theorem dX7_join_0 : decode cX7_join 0 = .ok (.aload_n 0, 1) := by decide +kernel
theorem dX7_join_1 : decode cX7_join 1 = .ok (.invokevirtual 60, 3) := by decide +kernel
theorem dX7_join_4 : decode cX7_join 4 = .ok (.astore_n 3, 1) := by decide +kernel
theorem dX7_join_5 : decode cX7_join 5 = .ok (.aload_n 3, 1) := by decide +kernel
theorem dX7_join_6 : decode cX7_join 6 = .ok (.iload_n 1, 1) := by decide +kernel
theorem dX7_join_7 : decode cX7_join 7 = .ok (.invokevirtual 87, 3) := by decide +kernel
theorem dX7_join_10 : decode cX7_join 10 = .ok (.astore 4, 2) := by decide +kernel
theorem dX7_join_12 : decode cX7_join 12 = .ok (.aload_n 3, 1) := by decide +kernel
theorem dX7_join_13 : decode cX7_join 13 = .ok (.iload_n 2, 1) := by decide +kernel
theorem dX7_join_14 : decode cX7_join 14 = .ok (.invokevirtual 87, 3) := by decide +kernel
theorem dX7_join_17 : decode cX7_join 17 = .ok (.astore 5, 2) := by decide +kernel
theorem dX7_join_19 : decode cX7_join 19 = .ok (.aload 4, 2) := by decide +kernel
theorem dX7_join_21 : decode cX7_join 21 = .ok (.ifnull 8, 3) := by decide +kernel
theorem dX7_join_24 : decode cX7_join 24 = .ok (.aload 5, 2) := by decide +kernel
theorem dX7_join_26 : decode cX7_join 26 = .ok (.ifnonnull 6, 3) := by decide +kernel
theorem dX7_join_29 : decode cX7_join 29 = .ok (.ldc 91, 2) := by decide +kernel
theorem dX7_join_31 : decode cX7_join 31 = .ok (.ireturn, 1) := by decide +kernel
theorem dX7_join_32 : decode cX7_join 32 = .ok (.iload_n 1, 1) := by decide +kernel
theorem dX7_join_33 : decode cX7_join 33 = .ok (.iload_n 2, 1) := by decide +kernel
theorem dX7_join_34 : decode cX7_join 34 = .ok (.if_icmp .ne 7, 3) := by decide +kernel
theorem dX7_join_37 : decode cX7_join 37 = .ok (.iconst 1, 1) := by decide +kernel
theorem dX7_join_38 : decode cX7_join 38 = .ok (.goto 4, 3) := by decide +kernel
theorem dX7_join_41 : decode cX7_join 41 = .ok (.iconst 0, 1) := by decide +kernel
theorem dX7_join_42 : decode cX7_join 42 = .ok (.istore 6, 2) := by decide +kernel
theorem dX7_join_44 : decode cX7_join 44 = .ok (.aload 4, 2) := by decide +kernel
theorem dX7_join_46 : decode cX7_join 46 = .ok (.aload 5, 2) := by decide +kernel
theorem dX7_join_48 : decode cX7_join 48 = .ok (.invokevirtual 160, 3) := by decide +kernel
theorem dX7_join_51 : decode cX7_join 51 = .ok (.istore 7, 2) := by decide +kernel
theorem dX7_join_53 : decode cX7_join 53 = .ok (.iload 6, 2) := by decide +kernel
theorem dX7_join_55 : decode cX7_join 55 = .ok (.ifCond .eq 11, 3) := by decide +kernel
theorem dX7_join_58 : decode cX7_join 58 = .ok (.aload 4, 2) := by decide +kernel
theorem dX7_join_60 : decode cX7_join 60 = .ok (.getfield 97, 3) := by decide +kernel
theorem dX7_join_63 : decode cX7_join 63 = .ok (.goto 14, 3) := by decide +kernel
theorem dX7_join_66 : decode cX7_join 66 = .ok (.aload 4, 2) := by decide +kernel
theorem dX7_join_68 : decode cX7_join 68 = .ok (.getfield 97, 3) := by decide +kernel
theorem dX7_join_71 : decode cX7_join 71 = .ok (.aload 5, 2) := by decide +kernel
theorem dX7_join_73 : decode cX7_join 73 = .ok (.getfield 97, 3) := by decide +kernel
theorem dX7_join_76 : decode cX7_join 76 = .ok (.iadd, 1) := by decide +kernel
theorem dX7_join_77 : decode cX7_join 77 = .ok (.iload 7, 2) := by decide +kernel
theorem dX7_join_79 : decode cX7_join 79 = .ok (.ifCond .eq 7, 3) := by decide +kernel
theorem dX7_join_82 : decode cX7_join 82 = .ok (.iconst 1, 1) := by decide +kernel
theorem dX7_join_83 : decode cX7_join 83 = .ok (.goto 4, 3) := by decide +kernel
theorem dX7_join_86 : decode cX7_join 86 = .ok (.iconst 0, 1) := by decide +kernel
theorem dX7_join_87 : decode cX7_join 87 = .ok (.isub, 1) := by decide +kernel
theorem dX7_join_88 : decode cX7_join 88 = .ok (.istore 8, 2) := by decide +kernel
theorem dX7_join_90 : decode cX7_join 90 = .ok (.aload 4, 2) := by decide +kernel
theorem dX7_join_92 : decode cX7_join 92 = .ok (.getfield 92, 3) := by decide +kernel
theorem dX7_join_95 : decode cX7_join 95 = .ok (.ifCond .ne 22, 3) := by decide +kernel
theorem dX7_join_98 : decode cX7_join 98 = .ok (.aload 5, 2) := by decide +kernel
theorem dX7_join_100 : decode cX7_join 100 = .ok (.getfield 92, 3) := by decide +kernel
theorem dX7_join_103 : decode cX7_join 103 = .ok (.ifCond .ne 14, 3) := by decide +kernel
theorem dX7_join_106 : decode cX7_join 106 = .ok (.iload 6, 2) := by decide +kernel
theorem dX7_join_108 : decode cX7_join 108 = .ok (.ifCond .eq 12, 3) := by decide +kernel
theorem dX7_join_111 : decode cX7_join 111 = .ok (.iload 8, 2) := by decide +kernel
theorem dX7_join_113 : decode cX7_join 113 = .ok (.iconst 2, 1) := by decide +kernel
theorem dX7_join_114 : decode cX7_join 114 = .ok (.if_icmp .ge 6, 3) := by decide +kernel
theorem dX7_join_117 : decode cX7_join 117 = .ok (.ldc 96, 2) := by decide +kernel
theorem dX7_join_119 : decode cX7_join 119 = .ok (.ireturn, 1) := by decide +kernel
theorem dX7_join_120 : decode cX7_join 120 = .ok (.iload 8, 2) := by decide +kernel
theorem dX7_join_122 : decode cX7_join 122 = .ok (.bipush 12, 2) := by decide +kernel
theorem dX7_join_124 : decode cX7_join 124 = .ok (.if_icmp .le 6, 3) := by decide +kernel
theorem dX7_join_127 : decode cX7_join 127 = .ok (.ldc 68, 2) := by decide +kernel
theorem dX7_join_129 : decode cX7_join 129 = .ok (.ireturn, 1) := by decide +kernel
theorem dX7_join_130 : decode cX7_join 130 = .ok (.iload 7, 2) := by decide +kernel
theorem dX7_join_132 : decode cX7_join 132 = .ok (.ifCond .eq 10, 3) := by decide +kernel
theorem dX7_join_135 : decode cX7_join 135 = .ok (.aload 5, 2) := by decide +kernel
theorem dX7_join_137 : decode cX7_join 137 = .ok (.aload 4, 2) := by decide +kernel
theorem dX7_join_139 : decode cX7_join 139 = .ok (.invokevirtual 164, 3) := by decide +kernel
theorem dX7_join_142 : decode cX7_join 142 = .ok (.iload 6, 2) := by decide +kernel
theorem dX7_join_144 : decode cX7_join 144 = .ok (.ifCond .eq 12, 3) := by decide +kernel
theorem dX7_join_147 : decode cX7_join 147 = .ok (.aload 4, 2) := by decide +kernel
theorem dX7_join_149 : decode cX7_join 149 = .ok (.iconst 1, 1) := by decide +kernel
theorem dX7_join_150 : decode cX7_join 150 = .ok (.putfield 92, 3) := by decide +kernel
theorem dX7_join_153 : decode cX7_join 153 = .ok (.goto 15, 3) := by decide +kernel
theorem dX7_join_156 : decode cX7_join 156 = .ok (.aload 4, 2) := by decide +kernel
theorem dX7_join_158 : decode cX7_join 158 = .ok (.aload 5, 2) := by decide +kernel
theorem dX7_join_160 : decode cX7_join 160 = .ok (.invokevirtual 168, 3) := by decide +kernel
theorem dX7_join_163 : decode cX7_join 163 = .ok (.aload_n 3, 1) := by decide +kernel
theorem dX7_join_164 : decode cX7_join 164 = .ok (.iload_n 2, 1) := by decide +kernel
theorem dX7_join_165 : decode cX7_join 165 = .ok (.invokevirtual 100, 3) := by decide +kernel
theorem dX7_join_168 : decode cX7_join 168 = .ok (.aload_n 0, 1) := by decide +kernel
theorem dX7_join_169 : decode cX7_join 169 = .ok (.iload 8, 2) := by decide +kernel
theorem dX7_join_171 : decode cX7_join 171 = .ok (.invokevirtual 83, 3) := by decide +kernel
theorem dX7_join_174 : decode cX7_join 174 = .ok (.ireturn, 1) := by decide +kernel
theorem dX7_reverse_0 : decode cX7_reverse 0 = .ok (.aload_n 0, 1) := by decide +kernel
theorem dX7_reverse_1 : decode cX7_reverse 1 = .ok (.invokevirtual 60, 3) := by decide +kernel
theorem dX7_reverse_4 : decode cX7_reverse 4 = .ok (.iload_n 1, 1) := by decide +kernel
theorem dX7_reverse_5 : decode cX7_reverse 5 = .ok (.invokevirtual 87, 3) := by decide +kernel
theorem dX7_reverse_8 : decode cX7_reverse 8 = .ok (.astore_n 2, 1) := by decide +kernel
theorem dX7_reverse_9 : decode cX7_reverse 9 = .ok (.aload_n 2, 1) := by decide +kernel
theorem dX7_reverse_10 : decode cX7_reverse 10 = .ok (.ifnonnull 6, 3) := by decide +kernel
theorem dX7_reverse_13 : decode cX7_reverse 13 = .ok (.ldc 91, 2) := by decide +kernel
theorem dX7_reverse_15 : decode cX7_reverse 15 = .ok (.ireturn, 1) := by decide +kernel
theorem dX7_reverse_16 : decode cX7_reverse 16 = .ok (.aload_n 2, 1) := by decide +kernel
theorem dX7_reverse_17 : decode cX7_reverse 17 = .ok (.invokevirtual 171, 3) := by decide +kernel
theorem dX7_reverse_20 : decode cX7_reverse 20 = .ok (.aload_n 0, 1) := by decide +kernel
theorem dX7_reverse_21 : decode cX7_reverse 21 = .ok (.aload_n 2, 1) := by decide +kernel
theorem dX7_reverse_22 : decode cX7_reverse 22 = .ok (.getfield 97, 3) := by decide +kernel
theorem dX7_reverse_25 : decode cX7_reverse 25 = .ok (.invokevirtual 83, 3) := by decide +kernel
theorem dX7_reverse_28 : decode cX7_reverse 28 = .ok (.ireturn, 1) := by decide +kernel
theorem dX7_transform_0 : decode cX7_transform 0 = .ok (.aload_n 0, 1) := by decide +kernel
theorem dX7_transform_1 : decode cX7_transform 1 = .ok (.invokevirtual 60, 3) := by decide +kernel
theorem dX7_transform_4 : decode cX7_transform 4 = .ok (.iload_n 1, 1) := by decide +kernel
theorem dX7_transform_5 : decode cX7_transform 5 = .ok (.invokevirtual 87, 3) := by decide +kernel
theorem dX7_transform_8 : decode cX7_transform 8 = .ok (.astore 7, 2) := by decide +kernel
theorem dX7_transform_10 : decode cX7_transform 10 = .ok (.aload 7, 2) := by decide +kernel
theorem dX7_transform_12 : decode cX7_transform 12 = .ok (.ifnonnull 6, 3) := by decide +kernel
theorem dX7_transform_15 : decode cX7_transform 15 = .ok (.ldc 91, 2) := by decide +kernel
theorem dX7_transform_17 : decode cX7_transform 17 = .ok (.ireturn, 1) := by decide +kernel
theorem dX7_transform_18 : decode cX7_transform 18 = .ok (.iload_n 2, 1) := by decide +kernel
theorem dX7_transform_19 : decode cX7_transform 19 = .ok (.invokestatic 174, 3) := by decide +kernel
theorem dX7_transform_22 : decode cX7_transform 22 = .ok (.ifCond .eq 37, 3) := by decide +kernel
theorem dX7_transform_25 : decode cX7_transform 25 = .ok (.iload_n 3, 1) := by decide +kernel
theorem dX7_transform_26 : decode cX7_transform 26 = .ok (.invokestatic 174, 3) := by decide +kernel
theorem dX7_transform_29 : decode cX7_transform 29 = .ok (.ifCond .eq 30, 3) := by decide +kernel
theorem dX7_transform_32 : decode cX7_transform 32 = .ok (.iload 4, 2) := by decide +kernel
theorem dX7_transform_34 : decode cX7_transform 34 = .ok (.invokestatic 174, 3) := by decide +kernel
theorem dX7_transform_37 : decode cX7_transform 37 = .ok (.ifCond .eq 22, 3) := by decide +kernel
theorem dX7_transform_40 : decode cX7_transform 40 = .ok (.iload 5, 2) := by decide +kernel
theorem dX7_transform_42 : decode cX7_transform 42 = .ok (.invokestatic 174, 3) := by decide +kernel
theorem dX7_transform_45 : decode cX7_transform 45 = .ok (.ifCond .eq 14, 3) := by decide +kernel
theorem dX7_transform_48 : decode cX7_transform 48 = .ok (.iload 6, 2) := by decide +kernel
theorem dX7_transform_50 : decode cX7_transform 50 = .ok (.iconst 1, 1) := by decide +kernel
theorem dX7_transform_51 : decode cX7_transform 51 = .ok (.bipush 6, 2) := by decide +kernel
theorem dX7_transform_53 : decode cX7_transform 53 = .ok (.invokestatic 126, 3) := by decide +kernel
theorem dX7_transform_56 : decode cX7_transform 56 = .ok (.ifCond .ne 6, 3) := by decide +kernel
theorem dX7_transform_59 : decode cX7_transform 59 = .ok (.ldc 59, 2) := by decide +kernel
theorem dX7_transform_61 : decode cX7_transform 61 = .ok (.ireturn, 1) := by decide +kernel
theorem dX7_transform_62 : decode cX7_transform 62 = .ok (.iconst 0, 1) := by decide +kernel
theorem dX7_transform_63 : decode cX7_transform 63 = .ok (.istore 8, 2) := by decide +kernel
theorem dX7_transform_65 : decode cX7_transform 65 = .ok (.iload 8, 2) := by decide +kernel
theorem dX7_transform_67 : decode cX7_transform 67 = .ok (.aload 7, 2) := by decide +kernel
theorem dX7_transform_69 : decode cX7_transform 69 = .ok (.getfield 97, 3) := by decide +kernel
theorem dX7_transform_72 : decode cX7_transform 72 = .ok (.if_icmp .ge 32, 3) := by decide +kernel
theorem dX7_transform_75 : decode cX7_transform 75 = .ok (.aload 7, 2) := by decide +kernel
theorem dX7_transform_77 : decode cX7_transform 77 = .ok (.iload 8, 2) := by decide +kernel
theorem dX7_transform_79 : decode cX7_transform 79 = .ok (.iload_n 2, 1) := by decide +kernel
theorem dX7_transform_80 : decode cX7_transform 80 = .ok (.i2l, 1) := by decide +kernel
theorem dX7_transform_81 : decode cX7_transform 81 = .ok (.iload_n 3, 1) := by decide +kernel
theorem dX7_transform_82 : decode cX7_transform 82 = .ok (.i2l, 1) := by decide +kernel
theorem dX7_transform_83 : decode cX7_transform 83 = .ok (.iload 4, 2) := by decide +kernel
theorem dX7_transform_85 : decode cX7_transform 85 = .ok (.i2l, 1) := by decide +kernel
theorem dX7_transform_86 : decode cX7_transform 86 = .ok (.iload 5, 2) := by decide +kernel
theorem dX7_transform_88 : decode cX7_transform 88 = .ok (.i2l, 1) := by decide +kernel
theorem dX7_transform_89 : decode cX7_transform 89 = .ok (.iload 6, 2) := by decide +kernel
theorem dX7_transform_91 : decode cX7_transform 91 = .ok (.aload_n 0, 1) := by decide +kernel
theorem dX7_transform_92 : decode cX7_transform 92 = .ok (.getfield 29, 3) := by decide +kernel
theorem dX7_transform_95 : decode cX7_transform 95 = .ok (.invokevirtual 177, 3) := by decide +kernel
theorem dX7_transform_98 : decode cX7_transform 98 = .ok (.iinc 8 1, 3) := by decide +kernel
theorem dX7_transform_101 : decode cX7_transform 101 = .ok (.goto (-36), 3) := by decide +kernel
theorem dX7_transform_104 : decode cX7_transform 104 = .ok (.aload_n 0, 1) := by decide +kernel
theorem dX7_transform_105 : decode cX7_transform 105 = .ok (.aload 7, 2) := by decide +kernel
theorem dX7_transform_107 : decode cX7_transform 107 = .ok (.getfield 97, 3) := by decide +kernel
theorem dX7_transform_110 : decode cX7_transform 110 = .ok (.invokevirtual 83, 3) := by decide +kernel
theorem dX7_transform_113 : decode cX7_transform 113 = .ok (.ireturn, 1) := by decide +kernel
theorem dX7_shift_0 : decode cX7_shift 0 = .ok (.aload_n 0, 1) := by decide +kernel
theorem dX7_shift_1 : decode cX7_shift 1 = .ok (.invokevirtual 60, 3) := by decide +kernel
theorem dX7_shift_4 : decode cX7_shift 4 = .ok (.iload_n 1, 1) := by decide +kernel
theorem dX7_shift_5 : decode cX7_shift 5 = .ok (.invokevirtual 87, 3) := by decide +kernel
theorem dX7_shift_8 : decode cX7_shift 8 = .ok (.astore 4, 2) := by decide +kernel
theorem dX7_shift_10 : decode cX7_shift 10 = .ok (.aload 4, 2) := by decide +kernel
theorem dX7_shift_12 : decode cX7_shift 12 = .ok (.ifnonnull 6, 3) := by decide +kernel
theorem dX7_shift_15 : decode cX7_shift 15 = .ok (.ldc 91, 2) := by decide +kernel
theorem dX7_shift_17 : decode cX7_shift 17 = .ok (.ireturn, 1) := by decide +kernel
theorem dX7_shift_18 : decode cX7_shift 18 = .ok (.iload_n 2, 1) := by decide +kernel
theorem dX7_shift_19 : decode cX7_shift 19 = .ok (.invokestatic 55, 3) := by decide +kernel
theorem dX7_shift_22 : decode cX7_shift 22 = .ok (.ifCond .eq 10, 3) := by decide +kernel
theorem dX7_shift_25 : decode cX7_shift 25 = .ok (.iload_n 3, 1) := by decide +kernel
theorem dX7_shift_26 : decode cX7_shift 26 = .ok (.invokestatic 55, 3) := by decide +kernel
theorem dX7_shift_29 : decode cX7_shift 29 = .ok (.ifCond .ne 6, 3) := by decide +kernel
theorem dX7_shift_32 : decode cX7_shift 32 = .ok (.ldc 59, 2) := by decide +kernel
theorem dX7_shift_34 : decode cX7_shift 34 = .ok (.ireturn, 1) := by decide +kernel
theorem dX7_shift_35 : decode cX7_shift 35 = .ok (.iconst 0, 1) := by decide +kernel
theorem dX7_shift_36 : decode cX7_shift 36 = .ok (.istore 5, 2) := by decide +kernel
theorem dX7_shift_38 : decode cX7_shift 38 = .ok (.iload 5, 2) := by decide +kernel
theorem dX7_shift_40 : decode cX7_shift 40 = .ok (.aload 4, 2) := by decide +kernel
theorem dX7_shift_42 : decode cX7_shift 42 = .ok (.getfield 97, 3) := by decide +kernel
theorem dX7_shift_45 : decode cX7_shift 45 = .ok (.if_icmp .ge 28, 3) := by decide +kernel
theorem dX7_shift_48 : decode cX7_shift 48 = .ok (.aload 4, 2) := by decide +kernel
theorem dX7_shift_50 : decode cX7_shift 50 = .ok (.iload 5, 2) := by decide +kernel
theorem dX7_shift_52 : decode cX7_shift 52 = .ok (.iload_n 2, 1) := by decide +kernel
theorem dX7_shift_53 : decode cX7_shift 53 = .ok (.ldc 69, 2) := by decide +kernel
theorem dX7_shift_55 : decode cX7_shift 55 = .ok (.imul, 1) := by decide +kernel
theorem dX7_shift_56 : decode cX7_shift 56 = .ok (.iload_n 3, 1) := by decide +kernel
theorem dX7_shift_57 : decode cX7_shift 57 = .ok (.ldc 69, 2) := by decide +kernel
theorem dX7_shift_59 : decode cX7_shift 59 = .ok (.imul, 1) := by decide +kernel
theorem dX7_shift_60 : decode cX7_shift 60 = .ok (.aload_n 0, 1) := by decide +kernel
theorem dX7_shift_61 : decode cX7_shift 61 = .ok (.getfield 29, 3) := by decide +kernel
theorem dX7_shift_64 : decode cX7_shift 64 = .ok (.invokevirtual 107, 3) := by decide +kernel
theorem dX7_shift_67 : decode cX7_shift 67 = .ok (.iinc 5 1, 3) := by decide +kernel
theorem dX7_shift_70 : decode cX7_shift 70 = .ok (.goto (-32), 3) := by decide +kernel
theorem dX7_shift_73 : decode cX7_shift 73 = .ok (.aload_n 0, 1) := by decide +kernel
theorem dX7_shift_74 : decode cX7_shift 74 = .ok (.aload 4, 2) := by decide +kernel
theorem dX7_shift_76 : decode cX7_shift 76 = .ok (.getfield 97, 3) := by decide +kernel
theorem dX7_shift_79 : decode cX7_shift 79 = .ok (.invokevirtual 83, 3) := by decide +kernel
theorem dX7_shift_82 : decode cX7_shift 82 = .ok (.ireturn, 1) := by decide +kernel
theorem dX7_undo_0 : decode cX7_undo 0 = .ok (.aload_n 0, 1) := by decide +kernel
theorem dX7_undo_1 : decode cX7_undo 1 = .ok (.getfield 10, 3) := by decide +kernel
theorem dX7_undo_4 : decode cX7_undo 4 = .ok (.getfield 181, 3) := by decide +kernel
theorem dX7_undo_7 : decode cX7_undo 7 = .ok (.ifCond .ne 6, 3) := by decide +kernel
theorem dX7_undo_10 : decode cX7_undo 10 = .ok (.ldc 96, 2) := by decide +kernel
theorem dX7_undo_12 : decode cX7_undo 12 = .ok (.ireturn, 1) := by decide +kernel
theorem dX7_undo_13 : decode cX7_undo 13 = .ok (.aload_n 0, 1) := by decide +kernel
theorem dX7_undo_14 : decode cX7_undo 14 = .ok (.getfield 10, 3) := by decide +kernel
theorem dX7_undo_17 : decode cX7_undo 17 = .ok (.invokevirtual 184, 3) := by decide +kernel
theorem dX7_undo_20 : decode cX7_undo 20 = .ok (.aload_n 0, 1) := by decide +kernel
theorem dX7_undo_21 : decode cX7_undo 21 = .ok (.getfield 10, 3) := by decide +kernel
theorem dX7_undo_24 : decode cX7_undo 24 = .ok (.getfield 181, 3) := by decide +kernel
theorem dX7_undo_27 : decode cX7_undo 27 = .ok (.ireturn, 1) := by decide +kernel
theorem dX7_redo_0 : decode cX7_redo 0 = .ok (.aload_n 0, 1) := by decide +kernel
theorem dX7_redo_1 : decode cX7_redo 1 = .ok (.getfield 10, 3) := by decide +kernel
theorem dX7_redo_4 : decode cX7_redo 4 = .ok (.getfield 187, 3) := by decide +kernel
theorem dX7_redo_7 : decode cX7_redo 7 = .ok (.ifCond .ne 6, 3) := by decide +kernel
theorem dX7_redo_10 : decode cX7_redo 10 = .ok (.ldc 96, 2) := by decide +kernel
theorem dX7_redo_12 : decode cX7_redo 12 = .ok (.ireturn, 1) := by decide +kernel
theorem dX7_redo_13 : decode cX7_redo 13 = .ok (.aload_n 0, 1) := by decide +kernel
theorem dX7_redo_14 : decode cX7_redo 14 = .ok (.getfield 10, 3) := by decide +kernel
theorem dX7_redo_17 : decode cX7_redo 17 = .ok (.invokevirtual 190, 3) := by decide +kernel
theorem dX7_redo_20 : decode cX7_redo 20 = .ok (.aload_n 0, 1) := by decide +kernel
theorem dX7_redo_21 : decode cX7_redo 21 = .ok (.getfield 10, 3) := by decide +kernel
theorem dX7_redo_24 : decode cX7_redo 24 = .ok (.getfield 187, 3) := by decide +kernel
theorem dX7_redo_27 : decode cX7_redo 27 = .ok (.ireturn, 1) := by decide +kernel
theorem dX7_paths_0 : decode cX7_paths 0 = .ok (.aload_n 0, 1) := by decide +kernel
theorem dX7_paths_1 : decode cX7_paths 1 = .ok (.getfield 10, 3) := by decide +kernel
theorem dX7_paths_4 : decode cX7_paths 4 = .ok (.invokevirtual 76, 3) := by decide +kernel
theorem dX7_paths_7 : decode cX7_paths 7 = .ok (.getfield 79, 3) := by decide +kernel
theorem dX7_paths_10 : decode cX7_paths 10 = .ok (.ireturn, 1) := by decide +kernel
theorem dX7_nodes_0 : decode cX7_nodes 0 = .ok (.aload_n 0, 1) := by decide +kernel
theorem dX7_nodes_1 : decode cX7_nodes 1 = .ok (.getfield 10, 3) := by decide +kernel
theorem dX7_nodes_4 : decode cX7_nodes 4 = .ok (.invokevirtual 76, 3) := by decide +kernel
theorem dX7_nodes_7 : decode cX7_nodes 7 = .ok (.iload_n 1, 1) := by decide +kernel
theorem dX7_nodes_8 : decode cX7_nodes 8 = .ok (.invokevirtual 87, 3) := by decide +kernel
theorem dX7_nodes_11 : decode cX7_nodes 11 = .ok (.astore_n 2, 1) := by decide +kernel
theorem dX7_nodes_12 : decode cX7_nodes 12 = .ok (.aload_n 2, 1) := by decide +kernel
theorem dX7_nodes_13 : decode cX7_nodes 13 = .ok (.ifnonnull 8, 3) := by decide +kernel
theorem dX7_nodes_16 : decode cX7_nodes 16 = .ok (.ldc 91, 2) := by decide +kernel
theorem dX7_nodes_18 : decode cX7_nodes 18 = .ok (.goto 7, 3) := by decide +kernel
theorem dX7_nodes_21 : decode cX7_nodes 21 = .ok (.aload_n 2, 1) := by decide +kernel
theorem dX7_nodes_22 : decode cX7_nodes 22 = .ok (.getfield 97, 3) := by decide +kernel
theorem dX7_nodes_25 : decode cX7_nodes 25 = .ok (.ireturn, 1) := by decide +kernel
theorem dX7_isClosed_0 : decode cX7_isClosed 0 = .ok (.aload_n 0, 1) := by decide +kernel
theorem dX7_isClosed_1 : decode cX7_isClosed 1 = .ok (.getfield 10, 3) := by decide +kernel
theorem dX7_isClosed_4 : decode cX7_isClosed 4 = .ok (.invokevirtual 76, 3) := by decide +kernel
theorem dX7_isClosed_7 : decode cX7_isClosed 7 = .ok (.iload_n 1, 1) := by decide +kernel
theorem dX7_isClosed_8 : decode cX7_isClosed 8 = .ok (.invokevirtual 87, 3) := by decide +kernel
theorem dX7_isClosed_11 : decode cX7_isClosed 11 = .ok (.astore_n 2, 1) := by decide +kernel
theorem dX7_isClosed_12 : decode cX7_isClosed 12 = .ok (.aload_n 2, 1) := by decide +kernel
theorem dX7_isClosed_13 : decode cX7_isClosed 13 = .ok (.ifnonnull 6, 3) := by decide +kernel
theorem dX7_isClosed_16 : decode cX7_isClosed 16 = .ok (.ldc 91, 2) := by decide +kernel
theorem dX7_isClosed_18 : decode cX7_isClosed 18 = .ok (.ireturn, 1) := by decide +kernel
theorem dX7_isClosed_19 : decode cX7_isClosed 19 = .ok (.aload_n 2, 1) := by decide +kernel
theorem dX7_isClosed_20 : decode cX7_isClosed 20 = .ok (.getfield 92, 3) := by decide +kernel
theorem dX7_isClosed_23 : decode cX7_isClosed 23 = .ok (.ifCond .eq 7, 3) := by decide +kernel
theorem dX7_isClosed_26 : decode cX7_isClosed 26 = .ok (.iconst 1, 1) := by decide +kernel
theorem dX7_isClosed_27 : decode cX7_isClosed 27 = .ok (.goto 4, 3) := by decide +kernel
theorem dX7_isClosed_30 : decode cX7_isClosed 30 = .ok (.iconst 0, 1) := by decide +kernel
theorem dX7_isClosed_31 : decode cX7_isClosed 31 = .ok (.ireturn, 1) := by decide +kernel
theorem dX7_coordinate_0 : decode cX7_coordinate 0 = .ok (.aload_n 0, 1) := by decide +kernel
theorem dX7_coordinate_1 : decode cX7_coordinate 1 = .ok (.getfield 10, 3) := by decide +kernel
theorem dX7_coordinate_4 : decode cX7_coordinate 4 = .ok (.invokevirtual 76, 3) := by decide +kernel
theorem dX7_coordinate_7 : decode cX7_coordinate 7 = .ok (.iload_n 1, 1) := by decide +kernel
theorem dX7_coordinate_8 : decode cX7_coordinate 8 = .ok (.invokevirtual 87, 3) := by decide +kernel
theorem dX7_coordinate_11 : decode cX7_coordinate 11 = .ok (.astore 4, 2) := by decide +kernel
theorem dX7_coordinate_13 : decode cX7_coordinate 13 = .ok (.aload 4, 2) := by decide +kernel
theorem dX7_coordinate_15 : decode cX7_coordinate 15 = .ok (.ifnull 12, 3) := by decide +kernel
theorem dX7_coordinate_18 : decode cX7_coordinate 18 = .ok (.aload 4, 2) := by decide +kernel
theorem dX7_coordinate_20 : decode cX7_coordinate 20 = .ok (.iload_n 2, 1) := by decide +kernel
theorem dX7_coordinate_21 : decode cX7_coordinate 21 = .ok (.invokevirtual 104, 3) := by decide +kernel
theorem dX7_coordinate_24 : decode cX7_coordinate 24 = .ok (.ifCond .ne 6, 3) := by decide +kernel
theorem dX7_coordinate_27 : decode cX7_coordinate 27 = .ok (.ldc 91, 2) := by decide +kernel
theorem dX7_coordinate_29 : decode cX7_coordinate 29 = .ok (.ireturn, 1) := by decide +kernel
theorem dX7_coordinate_30 : decode cX7_coordinate 30 = .ok (.iload_n 3, 1) := by decide +kernel
theorem dX7_coordinate_31 : decode cX7_coordinate 31 = .ok (.iconst 0, 1) := by decide +kernel
theorem dX7_coordinate_32 : decode cX7_coordinate 32 = .ok (.iconst 5, 1) := by decide +kernel
theorem dX7_coordinate_33 : decode cX7_coordinate 33 = .ok (.invokestatic 126, 3) := by decide +kernel
theorem dX7_coordinate_36 : decode cX7_coordinate 36 = .ok (.ifCond .eq 13, 3) := by decide +kernel
theorem dX7_coordinate_39 : decode cX7_coordinate 39 = .ok (.aload 4, 2) := by decide +kernel
theorem dX7_coordinate_41 : decode cX7_coordinate 41 = .ok (.iload_n 2, 1) := by decide +kernel
theorem dX7_coordinate_42 : decode cX7_coordinate 42 = .ok (.iload_n 3, 1) := by decide +kernel
theorem dX7_coordinate_43 : decode cX7_coordinate 43 = .ok (.invokevirtual 111, 3) := by decide +kernel
theorem dX7_coordinate_46 : decode cX7_coordinate 46 = .ok (.goto 5, 3) := by decide +kernel
theorem dX7_coordinate_49 : decode cX7_coordinate 49 = .ok (.ldc 59, 2) := by decide +kernel
theorem dX7_coordinate_51 : decode cX7_coordinate 51 = .ok (.ireturn, 1) := by decide +kernel
theorem dX7_ratio_0 : decode cX7_ratio 0 = .ok (.aload_n 0, 1) := by decide +kernel
theorem dX7_ratio_1 : decode cX7_ratio 1 = .ok (.getfield 10, 3) := by decide +kernel
theorem dX7_ratio_4 : decode cX7_ratio 4 = .ok (.invokevirtual 76, 3) := by decide +kernel
theorem dX7_ratio_7 : decode cX7_ratio 7 = .ok (.iload_n 1, 1) := by decide +kernel
theorem dX7_ratio_8 : decode cX7_ratio 8 = .ok (.invokevirtual 87, 3) := by decide +kernel
theorem dX7_ratio_11 : decode cX7_ratio 11 = .ok (.astore 4, 2) := by decide +kernel
theorem dX7_ratio_13 : decode cX7_ratio 13 = .ok (.aload 4, 2) := by decide +kernel
theorem dX7_ratio_15 : decode cX7_ratio 15 = .ok (.ifnull 12, 3) := by decide +kernel
theorem dX7_ratio_18 : decode cX7_ratio 18 = .ok (.aload 4, 2) := by decide +kernel
theorem dX7_ratio_20 : decode cX7_ratio 20 = .ok (.iload_n 2, 1) := by decide +kernel
theorem dX7_ratio_21 : decode cX7_ratio 21 = .ok (.invokevirtual 104, 3) := by decide +kernel
theorem dX7_ratio_24 : decode cX7_ratio 24 = .ok (.ifCond .ne 6, 3) := by decide +kernel
theorem dX7_ratio_27 : decode cX7_ratio 27 = .ok (.ldc 91, 2) := by decide +kernel
theorem dX7_ratio_29 : decode cX7_ratio 29 = .ok (.ireturn, 1) := by decide +kernel
theorem dX7_ratio_30 : decode cX7_ratio 30 = .ok (.aload 4, 2) := by decide +kernel
theorem dX7_ratio_32 : decode cX7_ratio 32 = .ok (.iload_n 2, 1) := by decide +kernel
theorem dX7_ratio_33 : decode cX7_ratio 33 = .ok (.iload_n 3, 1) := by decide +kernel
theorem dX7_ratio_34 : decode cX7_ratio 34 = .ok (.ifCond .eq 8, 3) := by decide +kernel
theorem dX7_ratio_37 : decode cX7_ratio 37 = .ok (.bipush 7, 2) := by decide +kernel
theorem dX7_ratio_39 : decode cX7_ratio 39 = .ok (.goto 5, 3) := by decide +kernel
theorem dX7_ratio_42 : decode cX7_ratio 42 = .ok (.bipush 6, 2) := by decide +kernel
theorem dX7_ratio_44 : decode cX7_ratio 44 = .ok (.invokevirtual 193, 3) := by decide +kernel
theorem dX7_ratio_47 : decode cX7_ratio 47 = .ok (.ireturn, 1) := by decide +kernel
theorem dX7_point_0 : decode cX7_point 0 = .ok (.aload_n 0, 1) := by decide +kernel
theorem dX7_point_1 : decode cX7_point 1 = .ok (.getfield 10, 3) := by decide +kernel
theorem dX7_point_4 : decode cX7_point 4 = .ok (.invokevirtual 76, 3) := by decide +kernel
theorem dX7_point_7 : decode cX7_point 7 = .ok (.iload_n 1, 1) := by decide +kernel
theorem dX7_point_8 : decode cX7_point 8 = .ok (.invokevirtual 87, 3) := by decide +kernel
theorem dX7_point_11 : decode cX7_point 11 = .ok (.astore 6, 2) := by decide +kernel
theorem dX7_point_13 : decode cX7_point 13 = .ok (.aload 6, 2) := by decide +kernel
theorem dX7_point_15 : decode cX7_point 15 = .ok (.ifnull 12, 3) := by decide +kernel
theorem dX7_point_18 : decode cX7_point 18 = .ok (.aload 6, 2) := by decide +kernel
theorem dX7_point_20 : decode cX7_point 20 = .ok (.iload_n 2, 1) := by decide +kernel
theorem dX7_point_21 : decode cX7_point 21 = .ok (.invokevirtual 140, 3) := by decide +kernel
theorem dX7_point_24 : decode cX7_point 24 = .ok (.ifCond .ne 6, 3) := by decide +kernel
theorem dX7_point_27 : decode cX7_point 27 = .ok (.ldc 91, 2) := by decide +kernel
theorem dX7_point_29 : decode cX7_point 29 = .ok (.ireturn, 1) := by decide +kernel
theorem dX7_point_30 : decode cX7_point 30 = .ok (.iload 4, 2) := by decide +kernel
theorem dX7_point_32 : decode cX7_point 32 = .ok (.iconst 1, 1) := by decide +kernel
theorem dX7_point_33 : decode cX7_point 33 = .ok (.bipush 6, 2) := by decide +kernel
theorem dX7_point_35 : decode cX7_point 35 = .ok (.invokestatic 126, 3) := by decide +kernel
theorem dX7_point_38 : decode cX7_point 38 = .ok (.ifCond .eq 13, 3) := by decide +kernel
theorem dX7_point_41 : decode cX7_point 41 = .ok (.iload_n 3, 1) := by decide +kernel
theorem dX7_point_42 : decode cX7_point 42 = .ok (.iconst 0, 1) := by decide +kernel
theorem dX7_point_43 : decode cX7_point 43 = .ok (.iload 4, 2) := by decide +kernel
theorem dX7_point_45 : decode cX7_point 45 = .ok (.invokestatic 126, 3) := by decide +kernel
theorem dX7_point_48 : decode cX7_point 48 = .ok (.ifCond .ne 6, 3) := by decide +kernel
theorem dX7_point_51 : decode cX7_point 51 = .ok (.ldc 59, 2) := by decide +kernel
theorem dX7_point_53 : decode cX7_point 53 = .ok (.ireturn, 1) := by decide +kernel
theorem dX7_point_54 : decode cX7_point 54 = .ok (.aload_n 0, 1) := by decide +kernel
theorem dX7_point_55 : decode cX7_point 55 = .ok (.getfield 36, 3) := by decide +kernel
theorem dX7_point_58 : decode cX7_point 58 = .ok (.aload 6, 2) := by decide +kernel
theorem dX7_point_60 : decode cX7_point 60 = .ok (.iload_n 2, 1) := by decide +kernel
theorem dX7_point_61 : decode cX7_point 61 = .ok (.aload 6, 2) := by decide +kernel
theorem dX7_point_63 : decode cX7_point 63 = .ok (.iload_n 2, 1) := by decide +kernel
theorem dX7_point_64 : decode cX7_point 64 = .ok (.invokevirtual 196, 3) := by decide +kernel
theorem dX7_point_67 : decode cX7_point 67 = .ok (.iload 5, 2) := by decide +kernel
theorem dX7_point_69 : decode cX7_point 69 = .ok (.ifCond .eq 7, 3) := by decide +kernel
theorem dX7_point_72 : decode cX7_point 72 = .ok (.iconst 1, 1) := by decide +kernel
theorem dX7_point_73 : decode cX7_point 73 = .ok (.goto 4, 3) := by decide +kernel
theorem dX7_point_76 : decode cX7_point 76 = .ok (.iconst 0, 1) := by decide +kernel
theorem dX7_point_77 : decode cX7_point 77 = .ok (.iload_n 3, 1) := by decide +kernel
theorem dX7_point_78 : decode cX7_point 78 = .ok (.iload 4, 2) := by decide +kernel
theorem dX7_point_80 : decode cX7_point 80 = .ok (.invokevirtual 199, 3) := by decide +kernel
theorem dX7_point_83 : decode cX7_point 83 = .ok (.iload 4, 2) := by decide +kernel
theorem dX7_point_85 : decode cX7_point 85 = .ok (.i2l, 1) := by decide +kernel
theorem dX7_point_86 : decode cX7_point 86 = .ok (.iload 4, 2) := by decide +kernel
theorem dX7_point_88 : decode cX7_point 88 = .ok (.i2l, 1) := by decide +kernel
theorem dX7_point_89 : decode cX7_point 89 = .ok (.lmul, 1) := by decide +kernel
theorem dX7_point_90 : decode cX7_point 90 = .ok (.iload 4, 2) := by decide +kernel
theorem dX7_point_92 : decode cX7_point 92 = .ok (.i2l, 1) := by decide +kernel
theorem dX7_point_93 : decode cX7_point 93 = .ok (.lmul, 1) := by decide +kernel
theorem dX7_point_94 : decode cX7_point 94 = .ok (.lstore 7, 2) := by decide +kernel
theorem dX7_point_96 : decode cX7_point 96 = .ok (.aload_n 0, 1) := by decide +kernel
theorem dX7_point_97 : decode cX7_point 97 = .ok (.getfield 36, 3) := by decide +kernel
theorem dX7_point_100 : decode cX7_point 100 = .ok (.getfield 203, 3) := by decide +kernel
theorem dX7_point_103 : decode cX7_point 103 = .ok (.lload 7, 2) := by decide +kernel
theorem dX7_point_105 : decode cX7_point 105 = .ok (.lrem, 1) := by decide +kernel
theorem dX7_point_106 : decode cX7_point 106 = .ok (.lconst 0, 1) := by decide +kernel
theorem dX7_point_107 : decode cX7_point 107 = .ok (.lcmp, 1) := by decide +kernel
theorem dX7_point_108 : decode cX7_point 108 = .ok (.ifCond .ne 17, 3) := by decide +kernel
theorem dX7_point_111 : decode cX7_point 111 = .ok (.aload_n 0, 1) := by decide +kernel
theorem dX7_point_112 : decode cX7_point 112 = .ok (.getfield 36, 3) := by decide +kernel
theorem dX7_point_115 : decode cX7_point 115 = .ok (.getfield 203, 3) := by decide +kernel
theorem dX7_point_118 : decode cX7_point 118 = .ok (.lload 7, 2) := by decide +kernel
theorem dX7_point_120 : decode cX7_point 120 = .ok (.ldiv, 1) := by decide +kernel
theorem dX7_point_121 : decode cX7_point 121 = .ok (.l2i, 1) := by decide +kernel
theorem dX7_point_122 : decode cX7_point 122 = .ok (.goto 5, 3) := by decide +kernel
theorem dX7_point_125 : decode cX7_point 125 = .ok (.ldc 207, 2) := by decide +kernel
theorem dX7_point_127 : decode cX7_point 127 = .ok (.ireturn, 1) := by decide +kernel
theorem dX7_area_0 : decode cX7_area 0 = .ok (.aload_n 0, 1) := by decide +kernel
theorem dX7_area_1 : decode cX7_area 1 = .ok (.getfield 10, 3) := by decide +kernel
theorem dX7_area_4 : decode cX7_area 4 = .ok (.invokevirtual 76, 3) := by decide +kernel
theorem dX7_area_7 : decode cX7_area 7 = .ok (.iload_n 1, 1) := by decide +kernel
theorem dX7_area_8 : decode cX7_area 8 = .ok (.invokevirtual 87, 3) := by decide +kernel
theorem dX7_area_11 : decode cX7_area 11 = .ok (.astore_n 2, 1) := by decide +kernel
theorem dX7_area_12 : decode cX7_area 12 = .ok (.aload_n 2, 1) := by decide +kernel
theorem dX7_area_13 : decode cX7_area 13 = .ok (.ifnonnull 7, 3) := by decide +kernel
theorem dX7_area_16 : decode cX7_area 16 = .ok (.ldc2_w 208, 3) := by decide +kernel
theorem dX7_area_19 : decode cX7_area 19 = .ok (.lreturn, 1) := by decide +kernel
theorem dX7_area_20 : decode cX7_area 20 = .ok (.aload_n 2, 1) := by decide +kernel
theorem dX7_area_21 : decode cX7_area 21 = .ok (.getfield 92, 3) := by decide +kernel
theorem dX7_area_24 : decode cX7_area 24 = .ok (.ifCond .eq 10, 3) := by decide +kernel
theorem dX7_area_27 : decode cX7_area 27 = .ok (.aload_n 2, 1) := by decide +kernel
theorem dX7_area_28 : decode cX7_area 28 = .ok (.invokevirtual 210, 3) := by decide +kernel
theorem dX7_area_31 : decode cX7_area 31 = .ok (.goto 6, 3) := by decide +kernel
theorem dX7_area_34 : decode cX7_area 34 = .ok (.ldc2_w 214, 3) := by decide +kernel
theorem dX7_area_37 : decode cX7_area 37 = .ok (.lreturn, 1) := by decide +kernel
theorem dX7_box_0 : decode cX7_box 0 = .ok (.aload_n 0, 1) := by decide +kernel
theorem dX7_box_1 : decode cX7_box 1 = .ok (.getfield 10, 3) := by decide +kernel
theorem dX7_box_4 : decode cX7_box 4 = .ok (.invokevirtual 76, 3) := by decide +kernel
theorem dX7_box_7 : decode cX7_box 7 = .ok (.iload_n 1, 1) := by decide +kernel
theorem dX7_box_8 : decode cX7_box 8 = .ok (.invokevirtual 87, 3) := by decide +kernel
theorem dX7_box_11 : decode cX7_box 11 = .ok (.astore_n 3, 1) := by decide +kernel
theorem dX7_box_12 : decode cX7_box 12 = .ok (.aload_n 3, 1) := by decide +kernel
theorem dX7_box_13 : decode cX7_box 13 = .ok (.ifnonnull 6, 3) := by decide +kernel
theorem dX7_box_16 : decode cX7_box 16 = .ok (.ldc 91, 2) := by decide +kernel
theorem dX7_box_18 : decode cX7_box 18 = .ok (.ireturn, 1) := by decide +kernel
theorem dX7_box_19 : decode cX7_box 19 = .ok (.iload_n 2, 1) := by decide +kernel
theorem dX7_box_20 : decode cX7_box 20 = .ok (.iconst 0, 1) := by decide +kernel
theorem dX7_box_21 : decode cX7_box 21 = .ok (.iconst 3, 1) := by decide +kernel
theorem dX7_box_22 : decode cX7_box 22 = .ok (.invokestatic 126, 3) := by decide +kernel
theorem dX7_box_25 : decode cX7_box 25 = .ok (.ifCond .ne 6, 3) := by decide +kernel
theorem dX7_box_28 : decode cX7_box 28 = .ok (.ldc 59, 2) := by decide +kernel
theorem dX7_box_30 : decode cX7_box 30 = .ok (.ireturn, 1) := by decide +kernel
theorem dX7_box_31 : decode cX7_box 31 = .ok (.aload_n 3, 1) := by decide +kernel
theorem dX7_box_32 : decode cX7_box 32 = .ok (.iload_n 2, 1) := by decide +kernel
theorem dX7_box_33 : decode cX7_box 33 = .ok (.iconst 2, 1) := by decide +kernel
theorem dX7_box_34 : decode cX7_box 34 = .ok (.idiv, 1) := by decide +kernel
theorem dX7_box_35 : decode cX7_box 35 = .ok (.iload_n 2, 1) := by decide +kernel
theorem dX7_box_36 : decode cX7_box 36 = .ok (.iconst 2, 1) := by decide +kernel
theorem dX7_box_37 : decode cX7_box 37 = .ok (.irem, 1) := by decide +kernel
theorem dX7_box_38 : decode cX7_box 38 = .ok (.iconst 1, 1) := by decide +kernel
theorem dX7_box_39 : decode cX7_box 39 = .ok (.if_icmp .ne 7, 3) := by decide +kernel
theorem dX7_box_42 : decode cX7_box 42 = .ok (.iconst 1, 1) := by decide +kernel
theorem dX7_box_43 : decode cX7_box 43 = .ok (.goto 4, 3) := by decide +kernel
theorem dX7_box_46 : decode cX7_box 46 = .ok (.iconst 0, 1) := by decide +kernel
theorem dX7_box_47 : decode cX7_box 47 = .ok (.invokevirtual 216, 3) := by decide +kernel
theorem dX7_box_50 : decode cX7_box 50 = .ok (.ireturn, 1) := by decide +kernel
theorem dX7_find_0 : decode cX7_find 0 = .ok (.iload_n 1, 1) := by decide +kernel
theorem dX7_find_1 : decode cX7_find 1 = .ok (.invokestatic 55, 3) := by decide +kernel
theorem dX7_find_4 : decode cX7_find 4 = .ok (.ifCond .eq 10, 3) := by decide +kernel
theorem dX7_find_7 : decode cX7_find 7 = .ok (.iload_n 2, 1) := by decide +kernel
theorem dX7_find_8 : decode cX7_find 8 = .ok (.invokestatic 55, 3) := by decide +kernel
theorem dX7_find_11 : decode cX7_find 11 = .ok (.ifCond .ne 6, 3) := by decide +kernel
theorem dX7_find_14 : decode cX7_find 14 = .ok (.ldc 59, 2) := by decide +kernel
theorem dX7_find_16 : decode cX7_find 16 = .ok (.ireturn, 1) := by decide +kernel
theorem dX7_find_17 : decode cX7_find 17 = .ok (.aload_n 0, 1) := by decide +kernel
theorem dX7_find_18 : decode cX7_find 18 = .ok (.getfield 10, 3) := by decide +kernel
theorem dX7_find_21 : decode cX7_find 21 = .ok (.invokevirtual 76, 3) := by decide +kernel
theorem dX7_find_24 : decode cX7_find 24 = .ok (.astore_n 3, 1) := by decide +kernel
theorem dX7_find_25 : decode cX7_find 25 = .ok (.iconst 0, 1) := by decide +kernel
theorem dX7_find_26 : decode cX7_find 26 = .ok (.istore 4, 2) := by decide +kernel
theorem dX7_find_28 : decode cX7_find 28 = .ok (.iload 4, 2) := by decide +kernel
theorem dX7_find_30 : decode cX7_find 30 = .ok (.aload_n 3, 1) := by decide +kernel
theorem dX7_find_31 : decode cX7_find 31 = .ok (.getfield 79, 3) := by decide +kernel
theorem dX7_find_34 : decode cX7_find 34 = .ok (.if_icmp .ge 45, 3) := by decide +kernel
theorem dX7_find_37 : decode cX7_find 37 = .ok (.aload_n 3, 1) := by decide +kernel
theorem dX7_find_38 : decode cX7_find 38 = .ok (.getfield 220, 3) := by decide +kernel
theorem dX7_find_41 : decode cX7_find 41 = .ok (.iload 4, 2) := by decide +kernel
theorem dX7_find_43 : decode cX7_find 43 = .ok (.aaload, 1) := by decide +kernel
theorem dX7_find_44 : decode cX7_find 44 = .ok (.iload_n 1, 1) := by decide +kernel
theorem dX7_find_45 : decode cX7_find 45 = .ok (.ldc 69, 2) := by decide +kernel
theorem dX7_find_47 : decode cX7_find 47 = .ok (.imul, 1) := by decide +kernel
theorem dX7_find_48 : decode cX7_find 48 = .ok (.iload_n 2, 1) := by decide +kernel
theorem dX7_find_49 : decode cX7_find 49 = .ok (.ldc 69, 2) := by decide +kernel
theorem dX7_find_51 : decode cX7_find 51 = .ok (.imul, 1) := by decide +kernel
theorem dX7_find_52 : decode cX7_find 52 = .ok (.invokevirtual 224, 3) := by decide +kernel
theorem dX7_find_55 : decode cX7_find 55 = .ok (.istore 5, 2) := by decide +kernel
theorem dX7_find_57 : decode cX7_find 57 = .ok (.iload 5, 2) := by decide +kernel
theorem dX7_find_59 : decode cX7_find 59 = .ok (.ldc 227, 2) := by decide +kernel
theorem dX7_find_61 : decode cX7_find 61 = .ok (.if_icmp .eq 12, 3) := by decide +kernel
theorem dX7_find_64 : decode cX7_find 64 = .ok (.bipush 100, 2) := by decide +kernel
theorem dX7_find_66 : decode cX7_find 66 = .ok (.iload 4, 2) := by decide +kernel
theorem dX7_find_68 : decode cX7_find 68 = .ok (.imul, 1) := by decide +kernel
theorem dX7_find_69 : decode cX7_find 69 = .ok (.iload 5, 2) := by decide +kernel
theorem dX7_find_71 : decode cX7_find 71 = .ok (.iadd, 1) := by decide +kernel
theorem dX7_find_72 : decode cX7_find 72 = .ok (.ireturn, 1) := by decide +kernel
theorem dX7_find_73 : decode cX7_find 73 = .ok (.iinc 4 1, 3) := by decide +kernel
theorem dX7_find_76 : decode cX7_find 76 = .ok (.goto (-48), 3) := by decide +kernel
theorem dX7_find_79 : decode cX7_find 79 = .ok (.ldc 227, 2) := by decide +kernel
theorem dX7_find_81 : decode cX7_find 81 = .ok (.ireturn, 1) := by decide +kernel
theorem dX7_corners_0 : decode cX7_corners 0 = .ok (.aload_n 0, 1) := by decide +kernel
theorem dX7_corners_1 : decode cX7_corners 1 = .ok (.getfield 10, 3) := by decide +kernel
theorem dX7_corners_4 : decode cX7_corners 4 = .ok (.invokevirtual 76, 3) := by decide +kernel
theorem dX7_corners_7 : decode cX7_corners 7 = .ok (.iload_n 1, 1) := by decide +kernel
theorem dX7_corners_8 : decode cX7_corners 8 = .ok (.invokevirtual 87, 3) := by decide +kernel
theorem dX7_corners_11 : decode cX7_corners 11 = .ok (.astore_n 2, 1) := by decide +kernel
theorem dX7_corners_12 : decode cX7_corners 12 = .ok (.aload_n 2, 1) := by decide +kernel
theorem dX7_corners_13 : decode cX7_corners 13 = .ok (.ifnonnull 6, 3) := by decide +kernel
theorem dX7_corners_16 : decode cX7_corners 16 = .ok (.ldc 91, 2) := by decide +kernel
theorem dX7_corners_18 : decode cX7_corners 18 = .ok (.ireturn, 1) := by decide +kernel
theorem dX7_corners_19 : decode cX7_corners 19 = .ok (.iconst 0, 1) := by decide +kernel
theorem dX7_corners_20 : decode cX7_corners 20 = .ok (.istore_n 3, 1) := by decide +kernel
theorem dX7_corners_21 : decode cX7_corners 21 = .ok (.iconst 0, 1) := by decide +kernel
theorem dX7_corners_22 : decode cX7_corners 22 = .ok (.istore 4, 2) := by decide +kernel
theorem dX7_corners_24 : decode cX7_corners 24 = .ok (.iload 4, 2) := by decide +kernel
theorem dX7_corners_26 : decode cX7_corners 26 = .ok (.aload_n 2, 1) := by decide +kernel
theorem dX7_corners_27 : decode cX7_corners 27 = .ok (.getfield 97, 3) := by decide +kernel
theorem dX7_corners_30 : decode cX7_corners 30 = .ok (.if_icmp .ge 30, 3) := by decide +kernel
theorem dX7_corners_33 : decode cX7_corners 33 = .ok (.aload_n 2, 1) := by decide +kernel
theorem dX7_corners_34 : decode cX7_corners 34 = .ok (.iload 4, 2) := by decide +kernel
theorem dX7_corners_36 : decode cX7_corners 36 = .ok (.invokevirtual 119, 3) := by decide +kernel
theorem dX7_corners_39 : decode cX7_corners 39 = .ok (.ifCond .ne 15, 3) := by decide +kernel
theorem dX7_corners_42 : decode cX7_corners 42 = .ok (.aload_n 2, 1) := by decide +kernel
theorem dX7_corners_43 : decode cX7_corners 43 = .ok (.iload 4, 2) := by decide +kernel
theorem dX7_corners_45 : decode cX7_corners 45 = .ok (.invokevirtual 150, 3) := by decide +kernel
theorem dX7_corners_48 : decode cX7_corners 48 = .ok (.ifCond .eq 6, 3) := by decide +kernel
theorem dX7_corners_51 : decode cX7_corners 51 = .ok (.iinc 3 1, 3) := by decide +kernel
theorem dX7_corners_54 : decode cX7_corners 54 = .ok (.iinc 4 1, 3) := by decide +kernel
theorem dX7_corners_57 : decode cX7_corners 57 = .ok (.goto (-33), 3) := by decide +kernel
theorem dX7_corners_60 : decode cX7_corners 60 = .ok (.iload_n 3, 1) := by decide +kernel
theorem dX7_corners_61 : decode cX7_corners 61 = .ok (.ireturn, 1) := by decide +kernel
theorem dX7_append_0 : decode cX7_append 0 = .ok (.iload_n 1, 1) := by decide +kernel
theorem dX7_append_1 : decode cX7_append 1 = .ok (.iconst 0, 1) := by decide +kernel
theorem dX7_append_2 : decode cX7_append 2 = .ok (.bipush 127, 2) := by decide +kernel
theorem dX7_append_4 : decode cX7_append 4 = .ok (.invokestatic 126, 3) := by decide +kernel
theorem dX7_append_7 : decode cX7_append 7 = .ok (.ifCond .ne 6, 3) := by decide +kernel
theorem dX7_append_10 : decode cX7_append 10 = .ok (.ldc 59, 2) := by decide +kernel
theorem dX7_append_12 : decode cX7_append 12 = .ok (.ireturn, 1) := by decide +kernel
theorem dX7_append_13 : decode cX7_append 13 = .ok (.aload_n 0, 1) := by decide +kernel
theorem dX7_append_14 : decode cX7_append 14 = .ok (.getfield 43, 3) := by decide +kernel
theorem dX7_append_17 : decode cX7_append 17 = .ok (.getfield 228, 3) := by decide +kernel
theorem dX7_append_20 : decode cX7_append 20 = .ok (.bipush 120, 2) := by decide +kernel
theorem dX7_append_22 : decode cX7_append 22 = .ok (.if_icmp .lt 6, 3) := by decide +kernel
theorem dX7_append_25 : decode cX7_append 25 = .ok (.ldc 68, 2) := by decide +kernel
theorem dX7_append_27 : decode cX7_append 27 = .ok (.ireturn, 1) := by decide +kernel
theorem dX7_append_28 : decode cX7_append 28 = .ok (.aload_n 0, 1) := by decide +kernel
theorem dX7_append_29 : decode cX7_append 29 = .ok (.getfield 43, 3) := by decide +kernel
theorem dX7_append_32 : decode cX7_append 32 = .ok (.iload_n 1, 1) := by decide +kernel
theorem dX7_append_33 : decode cX7_append 33 = .ok (.invokevirtual 231, 3) := by decide +kernel
theorem dX7_append_36 : decode cX7_append 36 = .ok (.aload_n 0, 1) := by decide +kernel
theorem dX7_append_37 : decode cX7_append 37 = .ok (.getfield 43, 3) := by decide +kernel
theorem dX7_append_40 : decode cX7_append 40 = .ok (.getfield 228, 3) := by decide +kernel
theorem dX7_append_43 : decode cX7_append 43 = .ok (.ireturn, 1) := by decide +kernel
theorem dX7_clearText_0 : decode cX7_clearText 0 = .ok (.aload_n 0, 1) := by decide +kernel
theorem dX7_clearText_1 : decode cX7_clearText 1 = .ok (.getfield 43, 3) := by decide +kernel
theorem dX7_clearText_4 : decode cX7_clearText 4 = .ok (.getfield 228, 3) := by decide +kernel
theorem dX7_clearText_7 : decode cX7_clearText 7 = .ok (.istore_n 1, 1) := by decide +kernel
theorem dX7_clearText_8 : decode cX7_clearText 8 = .ok (.aload_n 0, 1) := by decide +kernel
theorem dX7_clearText_9 : decode cX7_clearText 9 = .ok (.getfield 43, 3) := by decide +kernel
theorem dX7_clearText_12 : decode cX7_clearText 12 = .ok (.iconst 0, 1) := by decide +kernel
theorem dX7_clearText_13 : decode cX7_clearText 13 = .ok (.putfield 228, 3) := by decide +kernel
theorem dX7_clearText_16 : decode cX7_clearText 16 = .ok (.iload_n 1, 1) := by decide +kernel
theorem dX7_clearText_17 : decode cX7_clearText 17 = .ok (.ireturn, 1) := by decide +kernel
theorem dX7_faultPosition_0 : decode cX7_faultPosition 0 = .ok (.aload_n 0, 1) := by decide +kernel
theorem dX7_faultPosition_1 : decode cX7_faultPosition 1 = .ok (.getfield 43, 3) := by decide +kernel
theorem dX7_faultPosition_4 : decode cX7_faultPosition 4 = .ok (.invokevirtual 234, 3) := by decide +kernel
theorem dX7_faultPosition_7 : decode cX7_faultPosition 7 = .ok (.aload_n 0, 1) := by decide +kernel
theorem dX7_faultPosition_8 : decode cX7_faultPosition 8 = .ok (.getfield 43, 3) := by decide +kernel
theorem dX7_faultPosition_11 : decode cX7_faultPosition 11 = .ok (.getfield 237, 3) := by decide +kernel
theorem dX7_faultPosition_14 : decode cX7_faultPosition 14 = .ok (.ireturn, 1) := by decide +kernel
theorem dX7_read_0 : decode cX7_read 0 = .ok (.aload_n 0, 1) := by decide +kernel
theorem dX7_read_1 : decode cX7_read 1 = .ok (.getfield 43, 3) := by decide +kernel
theorem dX7_read_4 : decode cX7_read 4 = .ok (.invokevirtual 234, 3) := by decide +kernel
theorem dX7_read_7 : decode cX7_read 7 = .ok (.aload_n 0, 1) := by decide +kernel
theorem dX7_read_8 : decode cX7_read 8 = .ok (.getfield 43, 3) := by decide +kernel
theorem dX7_read_11 : decode cX7_read 11 = .ok (.getfield 237, 3) := by decide +kernel
theorem dX7_read_14 : decode cX7_read 14 = .ok (.ldc 227, 2) := by decide +kernel
theorem dX7_read_16 : decode cX7_read 16 = .ok (.if_icmp .eq 6, 3) := by decide +kernel
theorem dX7_read_19 : decode cX7_read 19 = .ok (.ldc 96, 2) := by decide +kernel
theorem dX7_read_21 : decode cX7_read 21 = .ok (.ireturn, 1) := by decide +kernel
theorem dX7_read_22 : decode cX7_read 22 = .ok (.aload_n 0, 1) := by decide +kernel
theorem dX7_read_23 : decode cX7_read 23 = .ok (.invokevirtual 60, 3) := by decide +kernel
theorem dX7_read_26 : decode cX7_read 26 = .ok (.invokevirtual 64, 3) := by decide +kernel
theorem dX7_read_29 : decode cX7_read 29 = .ok (.astore_n 1, 1) := by decide +kernel
theorem dX7_read_30 : decode cX7_read 30 = .ok (.aload_n 1, 1) := by decide +kernel
theorem dX7_read_31 : decode cX7_read 31 = .ok (.ifnonnull 6, 3) := by decide +kernel
theorem dX7_read_34 : decode cX7_read 34 = .ok (.ldc 68, 2) := by decide +kernel
theorem dX7_read_36 : decode cX7_read 36 = .ok (.ireturn, 1) := by decide +kernel
theorem dX7_read_37 : decode cX7_read 37 = .ok (.aload_n 1, 1) := by decide +kernel
theorem dX7_read_38 : decode cX7_read 38 = .ok (.aload_n 0, 1) := by decide +kernel
theorem dX7_read_39 : decode cX7_read 39 = .ok (.getfield 43, 3) := by decide +kernel
theorem dX7_read_42 : decode cX7_read 42 = .ok (.getfield 240, 3) := by decide +kernel
theorem dX7_read_45 : decode cX7_read 45 = .ok (.invokevirtual 244, 3) := by decide +kernel
theorem dX7_read_48 : decode cX7_read 48 = .ok (.aload_n 0, 1) := by decide +kernel
theorem dX7_read_49 : decode cX7_read 49 = .ok (.aload_n 0, 1) := by decide +kernel
theorem dX7_read_50 : decode cX7_read 50 = .ok (.getfield 10, 3) := by decide +kernel
theorem dX7_read_53 : decode cX7_read 53 = .ok (.invokevirtual 76, 3) := by decide +kernel
theorem dX7_read_56 : decode cX7_read 56 = .ok (.getfield 79, 3) := by decide +kernel
theorem dX7_read_59 : decode cX7_read 59 = .ok (.invokevirtual 83, 3) := by decide +kernel
theorem dX7_read_62 : decode cX7_read 62 = .ok (.ireturn, 1) := by decide +kernel
theorem dX7_print_0 : decode cX7_print 0 = .ok (.aload_n 0, 1) := by decide +kernel
theorem dX7_print_1 : decode cX7_print 1 = .ok (.getfield 10, 3) := by decide +kernel
theorem dX7_print_4 : decode cX7_print 4 = .ok (.invokevirtual 76, 3) := by decide +kernel
theorem dX7_print_7 : decode cX7_print 7 = .ok (.iload_n 1, 1) := by decide +kernel
theorem dX7_print_8 : decode cX7_print 8 = .ok (.invokevirtual 87, 3) := by decide +kernel
theorem dX7_print_11 : decode cX7_print 11 = .ok (.astore_n 2, 1) := by decide +kernel
theorem dX7_print_12 : decode cX7_print 12 = .ok (.aload_n 2, 1) := by decide +kernel
theorem dX7_print_13 : decode cX7_print 13 = .ok (.ifnonnull 6, 3) := by decide +kernel
theorem dX7_print_16 : decode cX7_print 16 = .ok (.ldc 91, 2) := by decide +kernel
theorem dX7_print_18 : decode cX7_print 18 = .ok (.ireturn, 1) := by decide +kernel
theorem dX7_print_19 : decode cX7_print 19 = .ok (.aload_n 2, 1) := by decide +kernel
theorem dX7_print_20 : decode cX7_print 20 = .ok (.invokestatic 247, 3) := by decide +kernel
theorem dX7_print_23 : decode cX7_print 23 = .ok (.ifCond .ne 6, 3) := by decide +kernel
theorem dX7_print_26 : decode cX7_print 26 = .ok (.ldc 96, 2) := by decide +kernel
theorem dX7_print_28 : decode cX7_print 28 = .ok (.ireturn, 1) := by decide +kernel
theorem dX7_print_29 : decode cX7_print 29 = .ok (.aload_n 0, 1) := by decide +kernel
theorem dX7_print_30 : decode cX7_print 30 = .ok (.getfield 50, 3) := by decide +kernel
theorem dX7_print_33 : decode cX7_print 33 = .ok (.aload_n 2, 1) := by decide +kernel
theorem dX7_print_34 : decode cX7_print 34 = .ok (.invokevirtual 250, 3) := by decide +kernel
theorem dX7_print_37 : decode cX7_print 37 = .ok (.aload_n 0, 1) := by decide +kernel
theorem dX7_print_38 : decode cX7_print 38 = .ok (.getfield 50, 3) := by decide +kernel
theorem dX7_print_41 : decode cX7_print 41 = .ok (.getfield 253, 3) := by decide +kernel
theorem dX7_print_44 : decode cX7_print 44 = .ok (.ireturn, 1) := by decide +kernel
theorem dX7_printed_0 : decode cX7_printed 0 = .ok (.iload_n 1, 1) := by decide +kernel
theorem dX7_printed_1 : decode cX7_printed 1 = .ok (.ifCond .lt 14, 3) := by decide +kernel
theorem dX7_printed_4 : decode cX7_printed 4 = .ok (.iload_n 1, 1) := by decide +kernel
theorem dX7_printed_5 : decode cX7_printed 5 = .ok (.aload_n 0, 1) := by decide +kernel
theorem dX7_printed_6 : decode cX7_printed 6 = .ok (.getfield 50, 3) := by decide +kernel
theorem dX7_printed_9 : decode cX7_printed 9 = .ok (.getfield 253, 3) := by decide +kernel
theorem dX7_printed_12 : decode cX7_printed 12 = .ok (.if_icmp .lt 8, 3) := by decide +kernel
theorem dX7_printed_15 : decode cX7_printed 15 = .ok (.ldc 91, 2) := by decide +kernel
theorem dX7_printed_17 : decode cX7_printed 17 = .ok (.goto 12, 3) := by decide +kernel
theorem dX7_printed_20 : decode cX7_printed 20 = .ok (.aload_n 0, 1) := by decide +kernel
theorem dX7_printed_21 : decode cX7_printed 21 = .ok (.getfield 50, 3) := by decide +kernel
theorem dX7_printed_24 : decode cX7_printed 24 = .ok (.getfield 254, 3) := by decide +kernel
theorem dX7_printed_27 : decode cX7_printed 27 = .ok (.iload_n 1, 1) := by decide +kernel
theorem dX7_printed_28 : decode cX7_printed 28 = .ok (.baload, 1) := by decide +kernel
theorem dX7_printed_29 : decode cX7_printed 29 = .ok (.ireturn, 1) := by decide +kernel
theorem dX7_save_0 : decode cX7_save 0 = .ok (.iload_n 1, 1) := by decide +kernel
theorem dX7_save_1 : decode cX7_save 1 = .ok (.ifCond .lt 8, 3) := by decide +kernel
theorem dX7_save_4 : decode cX7_save 4 = .ok (.iload_n 1, 1) := by decide +kernel
theorem dX7_save_5 : decode cX7_save 5 = .ok (.iconst 2, 1) := by decide +kernel
theorem dX7_save_6 : decode cX7_save 6 = .ok (.if_icmp .lt 6, 3) := by decide +kernel
theorem dX7_save_9 : decode cX7_save 9 = .ok (.ldc 91, 2) := by decide +kernel
theorem dX7_save_11 : decode cX7_save 11 = .ok (.ireturn, 1) := by decide +kernel
theorem dX7_save_12 : decode cX7_save 12 = .ok (.aload_n 0, 1) := by decide +kernel
theorem dX7_save_13 : decode cX7_save 13 = .ok (.getfield 18, 3) := by decide +kernel
theorem dX7_save_16 : decode cX7_save 16 = .ok (.iload_n 1, 1) := by decide +kernel
theorem dX7_save_17 : decode cX7_save 17 = .ok (.aaload, 1) := by decide +kernel
theorem dX7_save_18 : decode cX7_save 18 = .ok (.aload_n 0, 1) := by decide +kernel
theorem dX7_save_19 : decode cX7_save 19 = .ok (.getfield 10, 3) := by decide +kernel
theorem dX7_save_22 : decode cX7_save 22 = .ok (.invokevirtual 76, 3) := by decide +kernel
theorem dX7_save_25 : decode cX7_save 25 = .ok (.invokevirtual 258, 3) := by decide +kernel
theorem dX7_save_28 : decode cX7_save 28 = .ok (.aload_n 0, 1) := by decide +kernel
theorem dX7_save_29 : decode cX7_save 29 = .ok (.getfield 22, 3) := by decide +kernel
theorem dX7_save_32 : decode cX7_save 32 = .ok (.iload_n 1, 1) := by decide +kernel
theorem dX7_save_33 : decode cX7_save 33 = .ok (.iconst 1, 1) := by decide +kernel
theorem dX7_save_34 : decode cX7_save 34 = .ok (.bastore, 1) := by decide +kernel
theorem dX7_save_35 : decode cX7_save 35 = .ok (.aload_n 0, 1) := by decide +kernel
theorem dX7_save_36 : decode cX7_save 36 = .ok (.getfield 18, 3) := by decide +kernel
theorem dX7_save_39 : decode cX7_save 39 = .ok (.iload_n 1, 1) := by decide +kernel
theorem dX7_save_40 : decode cX7_save 40 = .ok (.aaload, 1) := by decide +kernel
theorem dX7_save_41 : decode cX7_save 41 = .ok (.getfield 79, 3) := by decide +kernel
theorem dX7_save_44 : decode cX7_save 44 = .ok (.ireturn, 1) := by decide +kernel
theorem dX7_restore_0 : decode cX7_restore 0 = .ok (.iload_n 1, 1) := by decide +kernel
theorem dX7_restore_1 : decode cX7_restore 1 = .ok (.ifCond .lt 8, 3) := by decide +kernel
theorem dX7_restore_4 : decode cX7_restore 4 = .ok (.iload_n 1, 1) := by decide +kernel
theorem dX7_restore_5 : decode cX7_restore 5 = .ok (.iconst 2, 1) := by decide +kernel
theorem dX7_restore_6 : decode cX7_restore 6 = .ok (.if_icmp .lt 6, 3) := by decide +kernel
theorem dX7_restore_9 : decode cX7_restore 9 = .ok (.ldc 91, 2) := by decide +kernel
theorem dX7_restore_11 : decode cX7_restore 11 = .ok (.ireturn, 1) := by decide +kernel
theorem dX7_restore_12 : decode cX7_restore 12 = .ok (.aload_n 0, 1) := by decide +kernel
theorem dX7_restore_13 : decode cX7_restore 13 = .ok (.getfield 22, 3) := by decide +kernel
theorem dX7_restore_16 : decode cX7_restore 16 = .ok (.iload_n 1, 1) := by decide +kernel
theorem dX7_restore_17 : decode cX7_restore 17 = .ok (.baload, 1) := by decide +kernel
theorem dX7_restore_18 : decode cX7_restore 18 = .ok (.ifCond .ne 6, 3) := by decide +kernel
theorem dX7_restore_21 : decode cX7_restore 21 = .ok (.ldc 96, 2) := by decide +kernel
theorem dX7_restore_23 : decode cX7_restore 23 = .ok (.ireturn, 1) := by decide +kernel
theorem dX7_restore_24 : decode cX7_restore 24 = .ok (.aload_n 0, 1) := by decide +kernel
theorem dX7_restore_25 : decode cX7_restore 25 = .ok (.getfield 10, 3) := by decide +kernel
theorem dX7_restore_28 : decode cX7_restore 28 = .ok (.aload_n 0, 1) := by decide +kernel
theorem dX7_restore_29 : decode cX7_restore 29 = .ok (.getfield 18, 3) := by decide +kernel
theorem dX7_restore_32 : decode cX7_restore 32 = .ok (.iload_n 1, 1) := by decide +kernel
theorem dX7_restore_33 : decode cX7_restore 33 = .ok (.aaload, 1) := by decide +kernel
theorem dX7_restore_34 : decode cX7_restore 34 = .ok (.invokevirtual 261, 3) := by decide +kernel
theorem dX7_restore_37 : decode cX7_restore 37 = .ok (.aload_n 0, 1) := by decide +kernel
theorem dX7_restore_38 : decode cX7_restore 38 = .ok (.getfield 10, 3) := by decide +kernel
theorem dX7_restore_41 : decode cX7_restore 41 = .ok (.invokevirtual 76, 3) := by decide +kernel
theorem dX7_restore_44 : decode cX7_restore 44 = .ok (.getfield 79, 3) := by decide +kernel
theorem dX7_restore_47 : decode cX7_restore 47 = .ok (.ireturn, 1) := by decide +kernel
theorem dX7_checksum_0 : decode cX7_checksum 0 = .ok (.aload_n 0, 1) := by decide +kernel
theorem dX7_checksum_1 : decode cX7_checksum 1 = .ok (.getfield 10, 3) := by decide +kernel
theorem dX7_checksum_4 : decode cX7_checksum 4 = .ok (.invokevirtual 76, 3) := by decide +kernel
theorem dX7_checksum_7 : decode cX7_checksum 7 = .ok (.astore_n 1, 1) := by decide +kernel
theorem dX7_checksum_8 : decode cX7_checksum 8 = .ok (.ldc2_w 264, 3) := by decide +kernel
theorem dX7_checksum_11 : decode cX7_checksum 11 = .ok (.aload_n 1, 1) := by decide +kernel
theorem dX7_checksum_12 : decode cX7_checksum 12 = .ok (.getfield 79, 3) := by decide +kernel
theorem dX7_checksum_15 : decode cX7_checksum 15 = .ok (.i2l, 1) := by decide +kernel
theorem dX7_checksum_16 : decode cX7_checksum 16 = .ok (.ladd, 1) := by decide +kernel
theorem dX7_checksum_17 : decode cX7_checksum 17 = .ok (.lstore_n 2, 1) := by decide +kernel
theorem dX7_checksum_18 : decode cX7_checksum 18 = .ok (.iconst 0, 1) := by decide +kernel
theorem dX7_checksum_19 : decode cX7_checksum 19 = .ok (.istore 4, 2) := by decide +kernel
theorem dX7_checksum_21 : decode cX7_checksum 21 = .ok (.iload 4, 2) := by decide +kernel
theorem dX7_checksum_23 : decode cX7_checksum 23 = .ok (.aload_n 1, 1) := by decide +kernel
theorem dX7_checksum_24 : decode cX7_checksum 24 = .ok (.getfield 79, 3) := by decide +kernel
theorem dX7_checksum_27 : decode cX7_checksum 27 = .ok (.if_icmp .ge 21, 3) := by decide +kernel
theorem dX7_checksum_30 : decode cX7_checksum 30 = .ok (.aload_n 1, 1) := by decide +kernel
theorem dX7_checksum_31 : decode cX7_checksum 31 = .ok (.getfield 220, 3) := by decide +kernel
theorem dX7_checksum_34 : decode cX7_checksum 34 = .ok (.iload 4, 2) := by decide +kernel
theorem dX7_checksum_36 : decode cX7_checksum 36 = .ok (.aaload, 1) := by decide +kernel
theorem dX7_checksum_37 : decode cX7_checksum 37 = .ok (.lload_n 2, 1) := by decide +kernel
theorem dX7_checksum_38 : decode cX7_checksum 38 = .ok (.invokevirtual 266, 3) := by decide +kernel
theorem dX7_checksum_41 : decode cX7_checksum 41 = .ok (.lstore_n 2, 1) := by decide +kernel
theorem dX7_checksum_42 : decode cX7_checksum 42 = .ok (.iinc 4 1, 3) := by decide +kernel
theorem dX7_checksum_45 : decode cX7_checksum 45 = .ok (.goto (-24), 3) := by decide +kernel
theorem dX7_checksum_48 : decode cX7_checksum 48 = .ok (.lload_n 2, 1) := by decide +kernel
theorem dX7_checksum_49 : decode cX7_checksum 49 = .ok (.lreturn, 1) := by decide +kernel
theorem dX7_startChange_0 : decode cX7_startChange 0 = .ok (.aload_n 0, 1) := by decide +kernel
theorem dX7_startChange_1 : decode cX7_startChange 1 = .ok (.getfield 29, 3) := by decide +kernel
theorem dX7_startChange_4 : decode cX7_startChange 4 = .ok (.invokevirtual 270, 3) := by decide +kernel
theorem dX7_startChange_7 : decode cX7_startChange 7 = .ok (.aload_n 0, 1) := by decide +kernel
theorem dX7_startChange_8 : decode cX7_startChange 8 = .ok (.getfield 10, 3) := by decide +kernel
theorem dX7_startChange_11 : decode cX7_startChange 11 = .ok (.invokevirtual 273, 3) := by decide +kernel
theorem dX7_startChange_14 : decode cX7_startChange 14 = .ok (.areturn, 1) := by decide +kernel
theorem dX7_endChange_0 : decode cX7_endChange 0 = .ok (.aload_n 0, 1) := by decide +kernel
theorem dX7_endChange_1 : decode cX7_endChange 1 = .ok (.getfield 29, 3) := by decide +kernel
theorem dX7_endChange_4 : decode cX7_endChange 4 = .ok (.invokevirtual 276, 3) := by decide +kernel
theorem dX7_endChange_7 : decode cX7_endChange 7 = .ok (.istore_n 2, 1) := by decide +kernel
theorem dX7_endChange_8 : decode cX7_endChange 8 = .ok (.iload_n 2, 1) := by decide +kernel
theorem dX7_endChange_9 : decode cX7_endChange 9 = .ok (.ifCond .eq 5, 3) := by decide +kernel
theorem dX7_endChange_12 : decode cX7_endChange 12 = .ok (.iload_n 2, 1) := by decide +kernel
theorem dX7_endChange_13 : decode cX7_endChange 13 = .ok (.ireturn, 1) := by decide +kernel
theorem dX7_endChange_14 : decode cX7_endChange 14 = .ok (.aload_n 0, 1) := by decide +kernel
theorem dX7_endChange_15 : decode cX7_endChange 15 = .ok (.getfield 10, 3) := by decide +kernel
theorem dX7_endChange_18 : decode cX7_endChange 18 = .ok (.invokevirtual 280, 3) := by decide +kernel
theorem dX7_endChange_21 : decode cX7_endChange 21 = .ok (.iload_n 1, 1) := by decide +kernel
theorem dX7_endChange_22 : decode cX7_endChange 22 = .ok (.ireturn, 1) := by decide +kernel
theorem dX7_isBetween_0 : decode cX7_isBetween 0 = .ok (.iload_n 1, 1) := by decide +kernel
theorem dX7_isBetween_1 : decode cX7_isBetween 1 = .ok (.iload_n 0, 1) := by decide +kernel
theorem dX7_isBetween_2 : decode cX7_isBetween 2 = .ok (.if_icmp .gt 12, 3) := by decide +kernel
theorem dX7_isBetween_5 : decode cX7_isBetween 5 = .ok (.iload_n 0, 1) := by decide +kernel
theorem dX7_isBetween_6 : decode cX7_isBetween 6 = .ok (.iload_n 2, 1) := by decide +kernel
theorem dX7_isBetween_7 : decode cX7_isBetween 7 = .ok (.if_icmp .gt 7, 3) := by decide +kernel
theorem dX7_isBetween_10 : decode cX7_isBetween 10 = .ok (.iconst 1, 1) := by decide +kernel
theorem dX7_isBetween_11 : decode cX7_isBetween 11 = .ok (.goto 4, 3) := by decide +kernel
theorem dX7_isBetween_14 : decode cX7_isBetween 14 = .ok (.iconst 0, 1) := by decide +kernel
theorem dX7_isBetween_15 : decode cX7_isBetween 15 = .ok (.ireturn, 1) := by decide +kernel
theorem dX7_isLength_0 : decode cX7_isLength 0 = .ok (.iload_n 0, 1) := by decide +kernel
theorem dX7_isLength_1 : decode cX7_isLength 1 = .ok (.sipush (-200), 3) := by decide +kernel
theorem dX7_isLength_4 : decode cX7_isLength 4 = .ok (.sipush 200, 3) := by decide +kernel
theorem dX7_isLength_7 : decode cX7_isLength 7 = .ok (.invokestatic 126, 3) := by decide +kernel
theorem dX7_isLength_10 : decode cX7_isLength 10 = .ok (.ireturn, 1) := by decide +kernel
theorem dX7_isFactor_0 : decode cX7_isFactor 0 = .ok (.iload_n 0, 1) := by decide +kernel
theorem dX7_isFactor_1 : decode cX7_isFactor 1 = .ok (.bipush (-9), 2) := by decide +kernel
theorem dX7_isFactor_3 : decode cX7_isFactor 3 = .ok (.bipush 9, 2) := by decide +kernel
theorem dX7_isFactor_5 : decode cX7_isFactor 5 = .ok (.invokestatic 126, 3) := by decide +kernel
theorem dX7_isFactor_8 : decode cX7_isFactor 8 = .ok (.ireturn, 1) := by decide +kernel
theorem dX8_init_0 : decode cX8_init 0 = .ok (.aload_n 0, 1) := by decide +kernel
theorem dX8_init_1 : decode cX8_init 1 = .ok (.invokespecial 1, 3) := by decide +kernel
theorem dX8_init_4 : decode cX8_init 4 = .ok (.aload_n 0, 1) := by decide +kernel
theorem dX8_init_5 : decode cX8_init 5 = .ok (.sipush 589, 3) := by decide +kernel
theorem dX8_init_8 : decode cX8_init 8 = .ok (.newarray .int, 2) := by decide +kernel
theorem dX8_init_10 : decode cX8_init 10 = .ok (.putfield 7, 3) := by decide +kernel
theorem dX8_init_13 : decode cX8_init 13 = .ok (.aload_n 0, 1) := by decide +kernel
theorem dX8_init_14 : decode cX8_init 14 = .ok (.sipush 589, 3) := by decide +kernel
theorem dX8_init_17 : decode cX8_init 17 = .ok (.newarray .int, 2) := by decide +kernel
theorem dX8_init_19 : decode cX8_init 19 = .ok (.putfield 13, 3) := by decide +kernel
theorem dX8_init_22 : decode cX8_init 22 = .ok (.aload_n 0, 1) := by decide +kernel
theorem dX8_init_23 : decode cX8_init 23 = .ok (.sipush 5890, 3) := by decide +kernel
theorem dX8_init_26 : decode cX8_init 26 = .ok (.newarray .int, 2) := by decide +kernel
theorem dX8_init_28 : decode cX8_init 28 = .ok (.putfield 16, 3) := by decide +kernel
theorem dX8_init_31 : decode cX8_init 31 = .ok (.aload_n 0, 1) := by decide +kernel
theorem dX8_init_32 : decode cX8_init 32 = .ok (.sipush 5890, 3) := by decide +kernel
theorem dX8_init_35 : decode cX8_init 35 = .ok (.newarray .int, 2) := by decide +kernel
theorem dX8_init_37 : decode cX8_init 37 = .ok (.putfield 19, 3) := by decide +kernel
theorem dX8_init_40 : decode cX8_init 40 = .ok (.aload_n 0, 1) := by decide +kernel
theorem dX8_init_41 : decode cX8_init 41 = .ok (.sipush 1178, 3) := by decide +kernel
theorem dX8_init_44 : decode cX8_init 44 = .ok (.newarray .int, 2) := by decide +kernel
theorem dX8_init_46 : decode cX8_init 46 = .ok (.putfield 22, 3) := by decide +kernel
theorem dX8_init_49 : decode cX8_init 49 = .ok (.aload_n 0, 1) := by decide +kernel
theorem dX8_init_50 : decode cX8_init 50 = .ok (.iconst 2, 1) := by decide +kernel
theorem dX8_init_51 : decode cX8_init 51 = .ok (.newarray .boolean, 2) := by decide +kernel
theorem dX8_init_53 : decode cX8_init 53 = .ok (.putfield 25, 3) := by decide +kernel
theorem dX8_init_56 : decode cX8_init 56 = .ok (.aload_n 0, 1) := by decide +kernel
theorem dX8_init_57 : decode cX8_init 57 = .ok (.bipush 120, 2) := by decide +kernel
theorem dX8_init_59 : decode cX8_init 59 = .ok (.newarray .int, 2) := by decide +kernel
theorem dX8_init_61 : decode cX8_init 61 = .ok (.putfield 29, 3) := by decide +kernel
theorem dX8_init_64 : decode cX8_init 64 = .ok (.aload_n 0, 1) := by decide +kernel
theorem dX8_init_65 : decode cX8_init 65 = .ok (.sipush 500, 3) := by decide +kernel
theorem dX8_init_68 : decode cX8_init 68 = .ok (.newarray .int, 2) := by decide +kernel
theorem dX8_init_70 : decode cX8_init 70 = .ok (.putfield 32, 3) := by decide +kernel
theorem dX8_init_73 : decode cX8_init 73 = .ok (.aload_n 0, 1) := by decide +kernel
theorem dX8_init_74 : decode cX8_init 74 = .ok (.bipush 8, 2) := by decide +kernel
theorem dX8_init_76 : decode cX8_init 76 = .ok (.newarray .int, 2) := by decide +kernel
theorem dX8_init_78 : decode cX8_init 78 = .ok (.putfield 35, 3) := by decide +kernel
theorem dX8_init_81 : decode cX8_init 81 = .ok (.aload_n 0, 1) := by decide +kernel
theorem dX8_init_82 : decode cX8_init 82 = .ok (.sipush 208, 3) := by decide +kernel
theorem dX8_init_85 : decode cX8_init 85 = .ok (.newarray .int, 2) := by decide +kernel
theorem dX8_init_87 : decode cX8_init 87 = .ok (.putfield 38, 3) := by decide +kernel
theorem dX8_init_90 : decode cX8_init 90 = .ok (.aload_n 0, 1) := by decide +kernel
theorem dX8_init_91 : decode cX8_init 91 = .ok (.bipush 96, 2) := by decide +kernel
theorem dX8_init_93 : decode cX8_init 93 = .ok (.newarray .int, 2) := by decide +kernel
theorem dX8_init_95 : decode cX8_init 95 = .ok (.putfield 41, 3) := by decide +kernel
theorem dX8_init_98 : decode cX8_init 98 = .ok (.aload_n 0, 1) := by decide +kernel
theorem dX8_init_99 : decode cX8_init 99 = .ok (.sipush 500, 3) := by decide +kernel
theorem dX8_init_102 : decode cX8_init 102 = .ok (.newarray .int, 2) := by decide +kernel
theorem dX8_init_104 : decode cX8_init 104 = .ok (.putfield 44, 3) := by decide +kernel
theorem dX8_init_107 : decode cX8_init 107 = .ok (.return_, 1) := by decide +kernel
theorem dX8_in_0 : decode cX8_in 0 = .ok (.iload_n 0, 1) := by decide +kernel
theorem dX8_in_1 : decode cX8_in 1 = .ok (.iload_n 1, 1) := by decide +kernel
theorem dX8_in_2 : decode cX8_in 2 = .ok (.if_icmp .lt 12, 3) := by decide +kernel
theorem dX8_in_5 : decode cX8_in 5 = .ok (.iload_n 0, 1) := by decide +kernel
theorem dX8_in_6 : decode cX8_in 6 = .ok (.iload_n 2, 1) := by decide +kernel
theorem dX8_in_7 : decode cX8_in 7 = .ok (.if_icmp .gt 7, 3) := by decide +kernel
theorem dX8_in_10 : decode cX8_in 10 = .ok (.iconst 1, 1) := by decide +kernel
theorem dX8_in_11 : decode cX8_in 11 = .ok (.goto 4, 3) := by decide +kernel
theorem dX8_in_14 : decode cX8_in 14 = .ok (.iconst 0, 1) := by decide +kernel
theorem dX8_in_15 : decode cX8_in 15 = .ok (.ireturn, 1) := by decide +kernel
theorem dX8_isUnits_0 : decode cX8_isUnits 0 = .ok (.iload_n 0, 1) := by decide +kernel
theorem dX8_isUnits_1 : decode cX8_isUnits 1 = .ok (.sipush (-200), 3) := by decide +kernel
theorem dX8_isUnits_4 : decode cX8_isUnits 4 = .ok (.sipush 200, 3) := by decide +kernel
theorem dX8_isUnits_7 : decode cX8_isUnits 7 = .ok (.invokestatic 47, 3) := by decide +kernel
theorem dX8_isUnits_10 : decode cX8_isUnits 10 = .ok (.ifCond .eq 20, 3) := by decide +kernel
theorem dX8_isUnits_13 : decode cX8_isUnits 13 = .ok (.iload_n 1, 1) := by decide +kernel
theorem dX8_isUnits_14 : decode cX8_isUnits 14 = .ok (.sipush (-200), 3) := by decide +kernel
theorem dX8_isUnits_17 : decode cX8_isUnits 17 = .ok (.sipush 200, 3) := by decide +kernel
theorem dX8_isUnits_20 : decode cX8_isUnits 20 = .ok (.invokestatic 47, 3) := by decide +kernel
theorem dX8_isUnits_23 : decode cX8_isUnits 23 = .ok (.ifCond .eq 7, 3) := by decide +kernel
theorem dX8_isUnits_26 : decode cX8_isUnits 26 = .ok (.iconst 1, 1) := by decide +kernel
theorem dX8_isUnits_27 : decode cX8_isUnits 27 = .ok (.goto 4, 3) := by decide +kernel
theorem dX8_isUnits_30 : decode cX8_isUnits 30 = .ok (.iconst 0, 1) := by decide +kernel
theorem dX8_isUnits_31 : decode cX8_isUnits 31 = .ok (.ireturn, 1) := by decide +kernel
theorem dX8_divisor_0 : decode cX8_divisor 0 = .ok (.iload_n 0, 1) := by decide +kernel
theorem dX8_divisor_1 : decode cX8_divisor 1 = .ok (.istore_n 2, 1) := by decide +kernel
theorem dX8_divisor_2 : decode cX8_divisor 2 = .ok (.iload_n 1, 1) := by decide +kernel
theorem dX8_divisor_3 : decode cX8_divisor 3 = .ok (.istore_n 3, 1) := by decide +kernel
theorem dX8_divisor_4 : decode cX8_divisor 4 = .ok (.iload_n 3, 1) := by decide +kernel
theorem dX8_divisor_5 : decode cX8_divisor 5 = .ok (.ifCond .eq 16, 3) := by decide +kernel
theorem dX8_divisor_8 : decode cX8_divisor 8 = .ok (.iload_n 2, 1) := by decide +kernel
theorem dX8_divisor_9 : decode cX8_divisor 9 = .ok (.iload_n 3, 1) := by decide +kernel
theorem dX8_divisor_10 : decode cX8_divisor 10 = .ok (.irem, 1) := by decide +kernel
theorem dX8_divisor_11 : decode cX8_divisor 11 = .ok (.istore 4, 2) := by decide +kernel
theorem dX8_divisor_13 : decode cX8_divisor 13 = .ok (.iload_n 3, 1) := by decide +kernel
theorem dX8_divisor_14 : decode cX8_divisor 14 = .ok (.istore_n 2, 1) := by decide +kernel
theorem dX8_divisor_15 : decode cX8_divisor 15 = .ok (.iload 4, 2) := by decide +kernel
theorem dX8_divisor_17 : decode cX8_divisor 17 = .ok (.istore_n 3, 1) := by decide +kernel
theorem dX8_divisor_18 : decode cX8_divisor 18 = .ok (.goto (-14), 3) := by decide +kernel
theorem dX8_divisor_21 : decode cX8_divisor 21 = .ok (.iload_n 2, 1) := by decide +kernel
theorem dX8_divisor_22 : decode cX8_divisor 22 = .ok (.ireturn, 1) := by decide +kernel
theorem dX8_path_0 : decode cX8_path 0 = .ok (.iconst 1, 1) := by decide +kernel
theorem dX8_path_1 : decode cX8_path 1 = .ok (.bipush 98, 2) := by decide +kernel
theorem dX8_path_3 : decode cX8_path 3 = .ok (.iload_n 0, 1) := by decide +kernel
theorem dX8_path_4 : decode cX8_path 4 = .ok (.imul, 1) := by decide +kernel
theorem dX8_path_5 : decode cX8_path 5 = .ok (.iadd, 1) := by decide +kernel
theorem dX8_path_6 : decode cX8_path 6 = .ok (.ireturn, 1) := by decide +kernel
theorem dX8_many_0 : decode cX8_many 0 = .ok (.aload_n 0, 1) := by decide +kernel
theorem dX8_many_1 : decode cX8_many 1 = .ok (.getfield 7, 3) := by decide +kernel
theorem dX8_many_4 : decode cX8_many 4 = .ok (.iload_n 1, 1) := by decide +kernel
theorem dX8_many_5 : decode cX8_many 5 = .ok (.invokestatic 51, 3) := by decide +kernel
theorem dX8_many_8 : decode cX8_many 8 = .ok (.iaload, 1) := by decide +kernel
theorem dX8_many_9 : decode cX8_many 9 = .ok (.ireturn, 1) := by decide +kernel
theorem dX8_isShut_0 : decode cX8_isShut 0 = .ok (.aload_n 0, 1) := by decide +kernel
theorem dX8_isShut_1 : decode cX8_isShut 1 = .ok (.getfield 7, 3) := by decide +kernel
theorem dX8_isShut_4 : decode cX8_isShut 4 = .ok (.iload_n 1, 1) := by decide +kernel
theorem dX8_isShut_5 : decode cX8_isShut 5 = .ok (.invokestatic 51, 3) := by decide +kernel
theorem dX8_isShut_8 : decode cX8_isShut 8 = .ok (.iconst 1, 1) := by decide +kernel
theorem dX8_isShut_9 : decode cX8_isShut 9 = .ok (.iadd, 1) := by decide +kernel
theorem dX8_isShut_10 : decode cX8_isShut 10 = .ok (.iaload, 1) := by decide +kernel
theorem dX8_isShut_11 : decode cX8_isShut 11 = .ok (.iconst 1, 1) := by decide +kernel
theorem dX8_isShut_12 : decode cX8_isShut 12 = .ok (.if_icmp .ne 7, 3) := by decide +kernel
theorem dX8_isShut_15 : decode cX8_isShut 15 = .ok (.iconst 1, 1) := by decide +kernel
theorem dX8_isShut_16 : decode cX8_isShut 16 = .ok (.goto 4, 3) := by decide +kernel
theorem dX8_isShut_19 : decode cX8_isShut 19 = .ok (.iconst 0, 1) := by decide +kernel
theorem dX8_isShut_20 : decode cX8_isShut 20 = .ok (.ireturn, 1) := by decide +kernel
theorem dX8_node_0 : decode cX8_node 0 = .ok (.iload_n 0, 1) := by decide +kernel
theorem dX8_node_1 : decode cX8_node 1 = .ok (.invokestatic 51, 3) := by decide +kernel
theorem dX8_node_4 : decode cX8_node 4 = .ok (.iconst 2, 1) := by decide +kernel
theorem dX8_node_5 : decode cX8_node 5 = .ok (.iadd, 1) := by decide +kernel
theorem dX8_node_6 : decode cX8_node 6 = .ok (.bipush 8, 2) := by decide +kernel
theorem dX8_node_8 : decode cX8_node 8 = .ok (.iload_n 1, 1) := by decide +kernel
theorem dX8_node_9 : decode cX8_node 9 = .ok (.imul, 1) := by decide +kernel
theorem dX8_node_10 : decode cX8_node 10 = .ok (.iadd, 1) := by decide +kernel
theorem dX8_node_11 : decode cX8_node 11 = .ok (.iload_n 2, 1) := by decide +kernel
theorem dX8_node_12 : decode cX8_node 12 = .ok (.iadd, 1) := by decide +kernel
theorem dX8_node_13 : decode cX8_node 13 = .ok (.ireturn, 1) := by decide +kernel
theorem dX8_isPath_0 : decode cX8_isPath 0 = .ok (.iload_n 1, 1) := by decide +kernel
theorem dX8_isPath_1 : decode cX8_isPath 1 = .ok (.iconst 0, 1) := by decide +kernel
theorem dX8_isPath_2 : decode cX8_isPath 2 = .ok (.aload_n 0, 1) := by decide +kernel
theorem dX8_isPath_3 : decode cX8_isPath 3 = .ok (.getfield 7, 3) := by decide +kernel
theorem dX8_isPath_6 : decode cX8_isPath 6 = .ok (.iconst 0, 1) := by decide +kernel
theorem dX8_isPath_7 : decode cX8_isPath 7 = .ok (.iaload, 1) := by decide +kernel
theorem dX8_isPath_8 : decode cX8_isPath 8 = .ok (.iconst 1, 1) := by decide +kernel
theorem dX8_isPath_9 : decode cX8_isPath 9 = .ok (.isub, 1) := by decide +kernel
theorem dX8_isPath_10 : decode cX8_isPath 10 = .ok (.invokestatic 47, 3) := by decide +kernel
theorem dX8_isPath_13 : decode cX8_isPath 13 = .ok (.ireturn, 1) := by decide +kernel
theorem dX8_isNode_0 : decode cX8_isNode 0 = .ok (.aload_n 0, 1) := by decide +kernel
theorem dX8_isNode_1 : decode cX8_isNode 1 = .ok (.iload_n 1, 1) := by decide +kernel
theorem dX8_isNode_2 : decode cX8_isNode 2 = .ok (.invokevirtual 55, 3) := by decide +kernel
theorem dX8_isNode_5 : decode cX8_isNode 5 = .ok (.ifCond .eq 22, 3) := by decide +kernel
theorem dX8_isNode_8 : decode cX8_isNode 8 = .ok (.iload_n 2, 1) := by decide +kernel
theorem dX8_isNode_9 : decode cX8_isNode 9 = .ok (.iconst 0, 1) := by decide +kernel
theorem dX8_isNode_10 : decode cX8_isNode 10 = .ok (.aload_n 0, 1) := by decide +kernel
theorem dX8_isNode_11 : decode cX8_isNode 11 = .ok (.iload_n 1, 1) := by decide +kernel
theorem dX8_isNode_12 : decode cX8_isNode 12 = .ok (.invokevirtual 59, 3) := by decide +kernel
theorem dX8_isNode_15 : decode cX8_isNode 15 = .ok (.iconst 1, 1) := by decide +kernel
theorem dX8_isNode_16 : decode cX8_isNode 16 = .ok (.isub, 1) := by decide +kernel
theorem dX8_isNode_17 : decode cX8_isNode 17 = .ok (.invokestatic 47, 3) := by decide +kernel
theorem dX8_isNode_20 : decode cX8_isNode 20 = .ok (.ifCond .eq 7, 3) := by decide +kernel
theorem dX8_isNode_23 : decode cX8_isNode 23 = .ok (.iconst 1, 1) := by decide +kernel
theorem dX8_isNode_24 : decode cX8_isNode 24 = .ok (.goto 4, 3) := by decide +kernel
theorem dX8_isNode_27 : decode cX8_isNode 27 = .ok (.iconst 0, 1) := by decide +kernel
theorem dX8_isNode_28 : decode cX8_isNode 28 = .ok (.ireturn, 1) := by decide +kernel
theorem dX8_segments_0 : decode cX8_segments 0 = .ok (.aload_n 0, 1) := by decide +kernel
theorem dX8_segments_1 : decode cX8_segments 1 = .ok (.iload_n 1, 1) := by decide +kernel
theorem dX8_segments_2 : decode cX8_segments 2 = .ok (.invokevirtual 62, 3) := by decide +kernel
theorem dX8_segments_5 : decode cX8_segments 5 = .ok (.ifCond .eq 11, 3) := by decide +kernel
theorem dX8_segments_8 : decode cX8_segments 8 = .ok (.aload_n 0, 1) := by decide +kernel
theorem dX8_segments_9 : decode cX8_segments 9 = .ok (.iload_n 1, 1) := by decide +kernel
theorem dX8_segments_10 : decode cX8_segments 10 = .ok (.invokevirtual 59, 3) := by decide +kernel
theorem dX8_segments_13 : decode cX8_segments 13 = .ok (.goto 10, 3) := by decide +kernel
theorem dX8_segments_16 : decode cX8_segments 16 = .ok (.aload_n 0, 1) := by decide +kernel
theorem dX8_segments_17 : decode cX8_segments 17 = .ok (.iload_n 1, 1) := by decide +kernel
theorem dX8_segments_18 : decode cX8_segments 18 = .ok (.invokevirtual 59, 3) := by decide +kernel
theorem dX8_segments_21 : decode cX8_segments 21 = .ok (.iconst 1, 1) := by decide +kernel
theorem dX8_segments_22 : decode cX8_segments 22 = .ok (.isub, 1) := by decide +kernel
theorem dX8_segments_23 : decode cX8_segments 23 = .ok (.ireturn, 1) := by decide +kernel
theorem dX8_isSegment_0 : decode cX8_isSegment 0 = .ok (.aload_n 0, 1) := by decide +kernel
theorem dX8_isSegment_1 : decode cX8_isSegment 1 = .ok (.iload_n 1, 1) := by decide +kernel
theorem dX8_isSegment_2 : decode cX8_isSegment 2 = .ok (.invokevirtual 55, 3) := by decide +kernel
theorem dX8_isSegment_5 : decode cX8_isSegment 5 = .ok (.ifCond .eq 22, 3) := by decide +kernel
theorem dX8_isSegment_8 : decode cX8_isSegment 8 = .ok (.iload_n 2, 1) := by decide +kernel
theorem dX8_isSegment_9 : decode cX8_isSegment 9 = .ok (.iconst 0, 1) := by decide +kernel
theorem dX8_isSegment_10 : decode cX8_isSegment 10 = .ok (.aload_n 0, 1) := by decide +kernel
theorem dX8_isSegment_11 : decode cX8_isSegment 11 = .ok (.iload_n 1, 1) := by decide +kernel
theorem dX8_isSegment_12 : decode cX8_isSegment 12 = .ok (.invokevirtual 65, 3) := by decide +kernel
theorem dX8_isSegment_15 : decode cX8_isSegment 15 = .ok (.iconst 1, 1) := by decide +kernel
theorem dX8_isSegment_16 : decode cX8_isSegment 16 = .ok (.isub, 1) := by decide +kernel
theorem dX8_isSegment_17 : decode cX8_isSegment 17 = .ok (.invokestatic 47, 3) := by decide +kernel
theorem dX8_isSegment_20 : decode cX8_isSegment 20 = .ok (.ifCond .eq 7, 3) := by decide +kernel
theorem dX8_isSegment_23 : decode cX8_isSegment 23 = .ok (.iconst 1, 1) := by decide +kernel
theorem dX8_isSegment_24 : decode cX8_isSegment 24 = .ok (.goto 4, 3) := by decide +kernel
theorem dX8_isSegment_27 : decode cX8_isSegment 27 = .ok (.iconst 0, 1) := by decide +kernel
theorem dX8_isSegment_28 : decode cX8_isSegment 28 = .ok (.ireturn, 1) := by decide +kernel
theorem dX8_copies_0 : decode cX8_copies 0 = .ok (.iconst 0, 1) := by decide +kernel
theorem dX8_copies_1 : decode cX8_copies 1 = .ok (.istore 5, 2) := by decide +kernel
theorem dX8_copies_3 : decode cX8_copies 3 = .ok (.iload 5, 2) := by decide +kernel
theorem dX8_copies_5 : decode cX8_copies 5 = .ok (.sipush 589, 3) := by decide +kernel
theorem dX8_copies_8 : decode cX8_copies 8 = .ok (.if_icmp .ge 22, 3) := by decide +kernel
theorem dX8_copies_11 : decode cX8_copies 11 = .ok (.aload_n 3, 1) := by decide +kernel
theorem dX8_copies_12 : decode cX8_copies 12 = .ok (.iload 4, 2) := by decide +kernel
theorem dX8_copies_14 : decode cX8_copies 14 = .ok (.iload 5, 2) := by decide +kernel
theorem dX8_copies_16 : decode cX8_copies 16 = .ok (.iadd, 1) := by decide +kernel
theorem dX8_copies_17 : decode cX8_copies 17 = .ok (.aload_n 1, 1) := by decide +kernel
theorem dX8_copies_18 : decode cX8_copies 18 = .ok (.iload_n 2, 1) := by decide +kernel
theorem dX8_copies_19 : decode cX8_copies 19 = .ok (.iload 5, 2) := by decide +kernel
theorem dX8_copies_21 : decode cX8_copies 21 = .ok (.iadd, 1) := by decide +kernel
theorem dX8_copies_22 : decode cX8_copies 22 = .ok (.iaload, 1) := by decide +kernel
theorem dX8_copies_23 : decode cX8_copies 23 = .ok (.iastore, 1) := by decide +kernel
theorem dX8_copies_24 : decode cX8_copies 24 = .ok (.iinc 5 1, 3) := by decide +kernel
theorem dX8_copies_27 : decode cX8_copies 27 = .ok (.goto (-24), 3) := by decide +kernel
theorem dX8_copies_30 : decode cX8_copies 30 = .ok (.return_, 1) := by decide +kernel
theorem dX8_begins_0 : decode cX8_begins 0 = .ok (.aload_n 0, 1) := by decide +kernel
theorem dX8_begins_1 : decode cX8_begins 1 = .ok (.aload_n 0, 1) := by decide +kernel
theorem dX8_begins_2 : decode cX8_begins 2 = .ok (.getfield 7, 3) := by decide +kernel
theorem dX8_begins_5 : decode cX8_begins 5 = .ok (.iconst 0, 1) := by decide +kernel
theorem dX8_begins_6 : decode cX8_begins 6 = .ok (.aload_n 0, 1) := by decide +kernel
theorem dX8_begins_7 : decode cX8_begins 7 = .ok (.getfield 13, 3) := by decide +kernel
theorem dX8_begins_10 : decode cX8_begins 10 = .ok (.iconst 0, 1) := by decide +kernel
theorem dX8_begins_11 : decode cX8_begins 11 = .ok (.invokevirtual 68, 3) := by decide +kernel
theorem dX8_begins_14 : decode cX8_begins 14 = .ok (.return_, 1) := by decide +kernel
theorem dX8_pushes_0 : decode cX8_pushes 0 = .ok (.aload_n 0, 1) := by decide +kernel
theorem dX8_pushes_1 : decode cX8_pushes 1 = .ok (.getfield 72, 3) := by decide +kernel
theorem dX8_pushes_4 : decode cX8_pushes 4 = .ok (.bipush 10, 2) := by decide +kernel
theorem dX8_pushes_6 : decode cX8_pushes 6 = .ok (.if_icmp .ne 40, 3) := by decide +kernel
theorem dX8_pushes_9 : decode cX8_pushes 9 = .ok (.iconst 0, 1) := by decide +kernel
theorem dX8_pushes_10 : decode cX8_pushes 10 = .ok (.istore_n 2, 1) := by decide +kernel
theorem dX8_pushes_11 : decode cX8_pushes 11 = .ok (.iload_n 2, 1) := by decide +kernel
theorem dX8_pushes_12 : decode cX8_pushes 12 = .ok (.sipush 5301, 3) := by decide +kernel
theorem dX8_pushes_15 : decode cX8_pushes 15 = .ok (.if_icmp .ge 25, 3) := by decide +kernel
theorem dX8_pushes_18 : decode cX8_pushes 18 = .ok (.aload_n 0, 1) := by decide +kernel
theorem dX8_pushes_19 : decode cX8_pushes 19 = .ok (.getfield 16, 3) := by decide +kernel
theorem dX8_pushes_22 : decode cX8_pushes 22 = .ok (.iload_n 2, 1) := by decide +kernel
theorem dX8_pushes_23 : decode cX8_pushes 23 = .ok (.aload_n 0, 1) := by decide +kernel
theorem dX8_pushes_24 : decode cX8_pushes 24 = .ok (.getfield 16, 3) := by decide +kernel
theorem dX8_pushes_27 : decode cX8_pushes 27 = .ok (.iload_n 2, 1) := by decide +kernel
theorem dX8_pushes_28 : decode cX8_pushes 28 = .ok (.sipush 589, 3) := by decide +kernel
theorem dX8_pushes_31 : decode cX8_pushes 31 = .ok (.iadd, 1) := by decide +kernel
theorem dX8_pushes_32 : decode cX8_pushes 32 = .ok (.iaload, 1) := by decide +kernel
theorem dX8_pushes_33 : decode cX8_pushes 33 = .ok (.iastore, 1) := by decide +kernel
theorem dX8_pushes_34 : decode cX8_pushes 34 = .ok (.iinc 2 1, 3) := by decide +kernel
theorem dX8_pushes_37 : decode cX8_pushes 37 = .ok (.goto (-26), 3) := by decide +kernel
theorem dX8_pushes_40 : decode cX8_pushes 40 = .ok (.aload_n 0, 1) := by decide +kernel
theorem dX8_pushes_41 : decode cX8_pushes 41 = .ok (.bipush 9, 2) := by decide +kernel
theorem dX8_pushes_43 : decode cX8_pushes 43 = .ok (.putfield 72, 3) := by decide +kernel
theorem dX8_pushes_46 : decode cX8_pushes 46 = .ok (.aload_n 0, 1) := by decide +kernel
theorem dX8_pushes_47 : decode cX8_pushes 47 = .ok (.aload_n 1, 1) := by decide +kernel
theorem dX8_pushes_48 : decode cX8_pushes 48 = .ok (.iconst 0, 1) := by decide +kernel
theorem dX8_pushes_49 : decode cX8_pushes 49 = .ok (.aload_n 0, 1) := by decide +kernel
theorem dX8_pushes_50 : decode cX8_pushes 50 = .ok (.getfield 16, 3) := by decide +kernel
theorem dX8_pushes_53 : decode cX8_pushes 53 = .ok (.sipush 589, 3) := by decide +kernel
theorem dX8_pushes_56 : decode cX8_pushes 56 = .ok (.aload_n 0, 1) := by decide +kernel
theorem dX8_pushes_57 : decode cX8_pushes 57 = .ok (.getfield 72, 3) := by decide +kernel
theorem dX8_pushes_60 : decode cX8_pushes 60 = .ok (.imul, 1) := by decide +kernel
theorem dX8_pushes_61 : decode cX8_pushes 61 = .ok (.invokevirtual 68, 3) := by decide +kernel
theorem dX8_pushes_64 : decode cX8_pushes 64 = .ok (.aload_n 0, 1) := by decide +kernel
theorem dX8_pushes_65 : decode cX8_pushes 65 = .ok (.dup, 1) := by decide +kernel
theorem dX8_pushes_66 : decode cX8_pushes 66 = .ok (.getfield 72, 3) := by decide +kernel
theorem dX8_pushes_69 : decode cX8_pushes 69 = .ok (.iconst 1, 1) := by decide +kernel
theorem dX8_pushes_70 : decode cX8_pushes 70 = .ok (.iadd, 1) := by decide +kernel
theorem dX8_pushes_71 : decode cX8_pushes 71 = .ok (.putfield 72, 3) := by decide +kernel
theorem dX8_pushes_74 : decode cX8_pushes 74 = .ok (.return_, 1) := by decide +kernel
theorem dX8_made_0 : decode cX8_made 0 = .ok (.aload_n 0, 1) := by decide +kernel
theorem dX8_made_1 : decode cX8_made 1 = .ok (.aload_n 0, 1) := by decide +kernel
theorem dX8_made_2 : decode cX8_made 2 = .ok (.getfield 13, 3) := by decide +kernel
theorem dX8_made_5 : decode cX8_made 5 = .ok (.invokevirtual 76, 3) := by decide +kernel
theorem dX8_made_8 : decode cX8_made 8 = .ok (.aload_n 0, 1) := by decide +kernel
theorem dX8_made_9 : decode cX8_made 9 = .ok (.iconst 0, 1) := by decide +kernel
theorem dX8_made_10 : decode cX8_made 10 = .ok (.putfield 80, 3) := by decide +kernel
theorem dX8_made_13 : decode cX8_made 13 = .ok (.iload_n 1, 1) := by decide +kernel
theorem dX8_made_14 : decode cX8_made 14 = .ok (.ireturn, 1) := by decide +kernel
theorem dX8_failed_0 : decode cX8_failed 0 = .ok (.aload_n 0, 1) := by decide +kernel
theorem dX8_failed_1 : decode cX8_failed 1 = .ok (.aload_n 0, 1) := by decide +kernel
theorem dX8_failed_2 : decode cX8_failed 2 = .ok (.getfield 13, 3) := by decide +kernel
theorem dX8_failed_5 : decode cX8_failed 5 = .ok (.iconst 0, 1) := by decide +kernel
theorem dX8_failed_6 : decode cX8_failed 6 = .ok (.aload_n 0, 1) := by decide +kernel
theorem dX8_failed_7 : decode cX8_failed 7 = .ok (.getfield 7, 3) := by decide +kernel
theorem dX8_failed_10 : decode cX8_failed 10 = .ok (.iconst 0, 1) := by decide +kernel
theorem dX8_failed_11 : decode cX8_failed 11 = .ok (.invokevirtual 68, 3) := by decide +kernel
theorem dX8_failed_14 : decode cX8_failed 14 = .ok (.iload_n 1, 1) := by decide +kernel
theorem dX8_failed_15 : decode cX8_failed 15 = .ok (.ireturn, 1) := by decide +kernel
theorem dX8_puts_0 : decode cX8_puts 0 = .ok (.lload_n 2, 1) := by decide +kernel
theorem dX8_puts_1 : decode cX8_puts 1 = .ok (.lload 4, 2) := by decide +kernel
theorem dX8_puts_3 : decode cX8_puts 3 = .ok (.lrem, 1) := by decide +kernel
theorem dX8_puts_4 : decode cX8_puts 4 = .ok (.lconst 0, 1) := by decide +kernel
theorem dX8_puts_5 : decode cX8_puts 5 = .ok (.lcmp, 1) := by decide +kernel
theorem dX8_puts_6 : decode cX8_puts 6 = .ok (.ifCond .eq 10, 3) := by decide +kernel
theorem dX8_puts_9 : decode cX8_puts 9 = .ok (.aload_n 0, 1) := by decide +kernel
theorem dX8_puts_10 : decode cX8_puts 10 = .ok (.ldc 83, 2) := by decide +kernel
theorem dX8_puts_12 : decode cX8_puts 12 = .ok (.putfield 84, 3) := by decide +kernel
theorem dX8_puts_15 : decode cX8_puts 15 = .ok (.return_, 1) := by decide +kernel
theorem dX8_puts_16 : decode cX8_puts 16 = .ok (.lload_n 2, 1) := by decide +kernel
theorem dX8_puts_17 : decode cX8_puts 17 = .ok (.lload 4, 2) := by decide +kernel
theorem dX8_puts_19 : decode cX8_puts 19 = .ok (.ldiv, 1) := by decide +kernel
theorem dX8_puts_20 : decode cX8_puts 20 = .ok (.lstore 6, 2) := by decide +kernel
theorem dX8_puts_22 : decode cX8_puts 22 = .ok (.lload 6, 2) := by decide +kernel
theorem dX8_puts_24 : decode cX8_puts 24 = .ok (.ldc2_w 87, 3) := by decide +kernel
theorem dX8_puts_27 : decode cX8_puts 27 = .ok (.lcmp, 1) := by decide +kernel
theorem dX8_puts_28 : decode cX8_puts 28 = .ok (.ifCond .gt 12, 3) := by decide +kernel
theorem dX8_puts_31 : decode cX8_puts 31 = .ok (.lload 6, 2) := by decide +kernel
theorem dX8_puts_33 : decode cX8_puts 33 = .ok (.ldc2_w 89, 3) := by decide +kernel
theorem dX8_puts_36 : decode cX8_puts 36 = .ok (.lcmp, 1) := by decide +kernel
theorem dX8_puts_37 : decode cX8_puts 37 = .ok (.ifCond .ge 16, 3) := by decide +kernel
theorem dX8_puts_40 : decode cX8_puts 40 = .ok (.aload_n 0, 1) := by decide +kernel
theorem dX8_puts_41 : decode cX8_puts 41 = .ok (.getfield 84, 3) := by decide +kernel
theorem dX8_puts_44 : decode cX8_puts 44 = .ok (.ifCond .ne 9, 3) := by decide +kernel
theorem dX8_puts_47 : decode cX8_puts 47 = .ok (.aload_n 0, 1) := by decide +kernel
theorem dX8_puts_48 : decode cX8_puts 48 = .ok (.ldc 91, 2) := by decide +kernel
theorem dX8_puts_50 : decode cX8_puts 50 = .ok (.putfield 84, 3) := by decide +kernel
theorem dX8_puts_53 : decode cX8_puts 53 = .ok (.aload_n 0, 1) := by decide +kernel
theorem dX8_puts_54 : decode cX8_puts 54 = .ok (.getfield 7, 3) := by decide +kernel
theorem dX8_puts_57 : decode cX8_puts 57 = .ok (.iload_n 1, 1) := by decide +kernel
theorem dX8_puts_58 : decode cX8_puts 58 = .ok (.lload 6, 2) := by decide +kernel
theorem dX8_puts_60 : decode cX8_puts 60 = .ok (.l2i, 1) := by decide +kernel
theorem dX8_puts_61 : decode cX8_puts 61 = .ok (.iastore, 1) := by decide +kernel
theorem dX8_puts_62 : decode cX8_puts 62 = .ok (.return_, 1) := by decide +kernel
theorem dX8_clears_0 : decode cX8_clears 0 = .ok (.iconst 0, 1) := by decide +kernel
theorem dX8_clears_1 : decode cX8_clears 1 = .ok (.istore 5, 2) := by decide +kernel
theorem dX8_clears_3 : decode cX8_clears 3 = .ok (.iload 5, 2) := by decide +kernel
theorem dX8_clears_5 : decode cX8_clears 5 = .ok (.bipush 8, 2) := by decide +kernel
theorem dX8_clears_7 : decode cX8_clears 7 = .ok (.if_icmp .ge 22, 3) := by decide +kernel
theorem dX8_clears_10 : decode cX8_clears 10 = .ok (.aload_n 0, 1) := by decide +kernel
theorem dX8_clears_11 : decode cX8_clears 11 = .ok (.getfield 7, 3) := by decide +kernel
theorem dX8_clears_14 : decode cX8_clears 14 = .ok (.iload_n 1, 1) := by decide +kernel
theorem dX8_clears_15 : decode cX8_clears 15 = .ok (.iload_n 2, 1) := by decide +kernel
theorem dX8_clears_16 : decode cX8_clears 16 = .ok (.iload 5, 2) := by decide +kernel
theorem dX8_clears_18 : decode cX8_clears 18 = .ok (.invokestatic 92, 3) := by decide +kernel
theorem dX8_clears_21 : decode cX8_clears 21 = .ok (.iconst 0, 1) := by decide +kernel
theorem dX8_clears_22 : decode cX8_clears 22 = .ok (.iastore, 1) := by decide +kernel
theorem dX8_clears_23 : decode cX8_clears 23 = .ok (.iinc 5 1, 3) := by decide +kernel
theorem dX8_clears_26 : decode cX8_clears 26 = .ok (.goto (-23), 3) := by decide +kernel
theorem dX8_clears_29 : decode cX8_clears 29 = .ok (.aload_n 0, 1) := by decide +kernel
theorem dX8_clears_30 : decode cX8_clears 30 = .ok (.getfield 7, 3) := by decide +kernel
theorem dX8_clears_33 : decode cX8_clears 33 = .ok (.iload_n 1, 1) := by decide +kernel
theorem dX8_clears_34 : decode cX8_clears 34 = .ok (.iload_n 2, 1) := by decide +kernel
theorem dX8_clears_35 : decode cX8_clears 35 = .ok (.iconst 0, 1) := by decide +kernel
theorem dX8_clears_36 : decode cX8_clears 36 = .ok (.invokestatic 92, 3) := by decide +kernel
theorem dX8_clears_39 : decode cX8_clears 39 = .ok (.iload_n 3, 1) := by decide +kernel
theorem dX8_clears_40 : decode cX8_clears 40 = .ok (.iastore, 1) := by decide +kernel
theorem dX8_clears_41 : decode cX8_clears 41 = .ok (.aload_n 0, 1) := by decide +kernel
theorem dX8_clears_42 : decode cX8_clears 42 = .ok (.getfield 7, 3) := by decide +kernel
theorem dX8_clears_45 : decode cX8_clears 45 = .ok (.iload_n 1, 1) := by decide +kernel
theorem dX8_clears_46 : decode cX8_clears 46 = .ok (.iload_n 2, 1) := by decide +kernel
theorem dX8_clears_47 : decode cX8_clears 47 = .ok (.iconst 1, 1) := by decide +kernel
theorem dX8_clears_48 : decode cX8_clears 48 = .ok (.invokestatic 92, 3) := by decide +kernel
theorem dX8_clears_51 : decode cX8_clears 51 = .ok (.iload 4, 2) := by decide +kernel
theorem dX8_clears_53 : decode cX8_clears 53 = .ok (.iastore, 1) := by decide +kernel
theorem dX8_clears_54 : decode cX8_clears 54 = .ok (.return_, 1) := by decide +kernel
theorem dX8_copiesNode_0 : decode cX8_copiesNode 0 = .ok (.iconst 0, 1) := by decide +kernel
theorem dX8_copiesNode_1 : decode cX8_copiesNode 1 = .ok (.istore 5, 2) := by decide +kernel
theorem dX8_copiesNode_3 : decode cX8_copiesNode 3 = .ok (.iload 5, 2) := by decide +kernel
theorem dX8_copiesNode_5 : decode cX8_copiesNode 5 = .ok (.bipush 8, 2) := by decide +kernel
theorem dX8_copiesNode_7 : decode cX8_copiesNode 7 = .ok (.if_icmp .ge 34, 3) := by decide +kernel
theorem dX8_copiesNode_10 : decode cX8_copiesNode 10 = .ok (.aload_n 0, 1) := by decide +kernel
theorem dX8_copiesNode_11 : decode cX8_copiesNode 11 = .ok (.getfield 7, 3) := by decide +kernel
theorem dX8_copiesNode_14 : decode cX8_copiesNode 14 = .ok (.iload_n 3, 1) := by decide +kernel
theorem dX8_copiesNode_15 : decode cX8_copiesNode 15 = .ok (.iload 4, 2) := by decide +kernel
theorem dX8_copiesNode_17 : decode cX8_copiesNode 17 = .ok (.iload 5, 2) := by decide +kernel
theorem dX8_copiesNode_19 : decode cX8_copiesNode 19 = .ok (.invokestatic 92, 3) := by decide +kernel
theorem dX8_copiesNode_22 : decode cX8_copiesNode 22 = .ok (.aload_n 0, 1) := by decide +kernel
theorem dX8_copiesNode_23 : decode cX8_copiesNode 23 = .ok (.getfield 7, 3) := by decide +kernel
theorem dX8_copiesNode_26 : decode cX8_copiesNode 26 = .ok (.iload_n 1, 1) := by decide +kernel
theorem dX8_copiesNode_27 : decode cX8_copiesNode 27 = .ok (.iload_n 2, 1) := by decide +kernel
theorem dX8_copiesNode_28 : decode cX8_copiesNode 28 = .ok (.iload 5, 2) := by decide +kernel
theorem dX8_copiesNode_30 : decode cX8_copiesNode 30 = .ok (.invokestatic 92, 3) := by decide +kernel
theorem dX8_copiesNode_33 : decode cX8_copiesNode 33 = .ok (.iaload, 1) := by decide +kernel
theorem dX8_copiesNode_34 : decode cX8_copiesNode 34 = .ok (.iastore, 1) := by decide +kernel
theorem dX8_copiesNode_35 : decode cX8_copiesNode 35 = .ok (.iinc 5 1, 3) := by decide +kernel
theorem dX8_copiesNode_38 : decode cX8_copiesNode 38 = .ok (.goto (-35), 3) := by decide +kernel
theorem dX8_copiesNode_41 : decode cX8_copiesNode 41 = .ok (.return_, 1) := by decide +kernel
theorem dX8_isSmooth_0 : decode cX8_isSmooth 0 = .ok (.aload_n 0, 1) := by decide +kernel
theorem dX8_isSmooth_1 : decode cX8_isSmooth 1 = .ok (.getfield 7, 3) := by decide +kernel
theorem dX8_isSmooth_4 : decode cX8_isSmooth 4 = .ok (.iload_n 1, 1) := by decide +kernel
theorem dX8_isSmooth_5 : decode cX8_isSmooth 5 = .ok (.iload_n 2, 1) := by decide +kernel
theorem dX8_isSmooth_6 : decode cX8_isSmooth 6 = .ok (.bipush 6, 2) := by decide +kernel
theorem dX8_isSmooth_8 : decode cX8_isSmooth 8 = .ok (.invokestatic 92, 3) := by decide +kernel
theorem dX8_isSmooth_11 : decode cX8_isSmooth 11 = .ok (.iaload, 1) := by decide +kernel
theorem dX8_isSmooth_12 : decode cX8_isSmooth 12 = .ok (.ifCond .le 7, 3) := by decide +kernel
theorem dX8_isSmooth_15 : decode cX8_isSmooth 15 = .ok (.iconst 1, 1) := by decide +kernel
theorem dX8_isSmooth_16 : decode cX8_isSmooth 16 = .ok (.goto 4, 3) := by decide +kernel
theorem dX8_isSmooth_19 : decode cX8_isSmooth 19 = .ok (.iconst 0, 1) := by decide +kernel
theorem dX8_isSmooth_20 : decode cX8_isSmooth 20 = .ok (.ireturn, 1) := by decide +kernel
theorem dX8_sets_0 : decode cX8_sets 0 = .ok (.iload_n 3, 1) := by decide +kernel
theorem dX8_sets_1 : decode cX8_sets 1 = .ok (.iload 4, 2) := by decide +kernel
theorem dX8_sets_3 : decode cX8_sets 3 = .ok (.invokestatic 96, 3) := by decide +kernel
theorem dX8_sets_6 : decode cX8_sets 6 = .ok (.istore 5, 2) := by decide +kernel
theorem dX8_sets_8 : decode cX8_sets 8 = .ok (.iload_n 3, 1) := by decide +kernel
theorem dX8_sets_9 : decode cX8_sets 9 = .ok (.iload 5, 2) := by decide +kernel
theorem dX8_sets_11 : decode cX8_sets 11 = .ok (.idiv, 1) := by decide +kernel
theorem dX8_sets_12 : decode cX8_sets 12 = .ok (.sipush 999, 3) := by decide +kernel
theorem dX8_sets_15 : decode cX8_sets 15 = .ok (.if_icmp .gt 18, 3) := by decide +kernel
theorem dX8_sets_18 : decode cX8_sets 18 = .ok (.iload 4, 2) := by decide +kernel
theorem dX8_sets_20 : decode cX8_sets 20 = .ok (.iload 5, 2) := by decide +kernel
theorem dX8_sets_22 : decode cX8_sets 22 = .ok (.idiv, 1) := by decide +kernel
theorem dX8_sets_23 : decode cX8_sets 23 = .ok (.sipush 999, 3) := by decide +kernel
theorem dX8_sets_26 : decode cX8_sets 26 = .ok (.if_icmp .gt 7, 3) := by decide +kernel
theorem dX8_sets_29 : decode cX8_sets 29 = .ok (.iconst 1, 1) := by decide +kernel
theorem dX8_sets_30 : decode cX8_sets 30 = .ok (.goto 4, 3) := by decide +kernel
theorem dX8_sets_33 : decode cX8_sets 33 = .ok (.iconst 0, 1) := by decide +kernel
theorem dX8_sets_34 : decode cX8_sets 34 = .ok (.istore 6, 2) := by decide +kernel
theorem dX8_sets_36 : decode cX8_sets 36 = .ok (.aload_n 0, 1) := by decide +kernel
theorem dX8_sets_37 : decode cX8_sets 37 = .ok (.getfield 7, 3) := by decide +kernel
theorem dX8_sets_40 : decode cX8_sets 40 = .ok (.iload_n 1, 1) := by decide +kernel
theorem dX8_sets_41 : decode cX8_sets 41 = .ok (.iload_n 2, 1) := by decide +kernel
theorem dX8_sets_42 : decode cX8_sets 42 = .ok (.bipush 6, 2) := by decide +kernel
theorem dX8_sets_44 : decode cX8_sets 44 = .ok (.invokestatic 92, 3) := by decide +kernel
theorem dX8_sets_47 : decode cX8_sets 47 = .ok (.iload 6, 2) := by decide +kernel
theorem dX8_sets_49 : decode cX8_sets 49 = .ok (.ifCond .eq 10, 3) := by decide +kernel
theorem dX8_sets_52 : decode cX8_sets 52 = .ok (.iload_n 3, 1) := by decide +kernel
theorem dX8_sets_53 : decode cX8_sets 53 = .ok (.iload 5, 2) := by decide +kernel
theorem dX8_sets_55 : decode cX8_sets 55 = .ok (.idiv, 1) := by decide +kernel
theorem dX8_sets_56 : decode cX8_sets 56 = .ok (.goto 4, 3) := by decide +kernel
theorem dX8_sets_59 : decode cX8_sets 59 = .ok (.iconst 0, 1) := by decide +kernel
theorem dX8_sets_60 : decode cX8_sets 60 = .ok (.iastore, 1) := by decide +kernel
theorem dX8_sets_61 : decode cX8_sets 61 = .ok (.aload_n 0, 1) := by decide +kernel
theorem dX8_sets_62 : decode cX8_sets 62 = .ok (.getfield 7, 3) := by decide +kernel
theorem dX8_sets_65 : decode cX8_sets 65 = .ok (.iload_n 1, 1) := by decide +kernel
theorem dX8_sets_66 : decode cX8_sets 66 = .ok (.iload_n 2, 1) := by decide +kernel
theorem dX8_sets_67 : decode cX8_sets 67 = .ok (.bipush 7, 2) := by decide +kernel
theorem dX8_sets_69 : decode cX8_sets 69 = .ok (.invokestatic 92, 3) := by decide +kernel
theorem dX8_sets_72 : decode cX8_sets 72 = .ok (.iload 6, 2) := by decide +kernel
theorem dX8_sets_74 : decode cX8_sets 74 = .ok (.ifCond .eq 11, 3) := by decide +kernel
theorem dX8_sets_77 : decode cX8_sets 77 = .ok (.iload 4, 2) := by decide +kernel
theorem dX8_sets_79 : decode cX8_sets 79 = .ok (.iload 5, 2) := by decide +kernel
theorem dX8_sets_81 : decode cX8_sets 81 = .ok (.idiv, 1) := by decide +kernel
theorem dX8_sets_82 : decode cX8_sets 82 = .ok (.goto 4, 3) := by decide +kernel
theorem dX8_sets_85 : decode cX8_sets 85 = .ok (.iconst 0, 1) := by decide +kernel
theorem dX8_sets_86 : decode cX8_sets 86 = .ok (.iastore, 1) := by decide +kernel
theorem dX8_sets_87 : decode cX8_sets 87 = .ok (.return_, 1) := by decide +kernel
theorem dX8_follows_0 : decode cX8_follows 0 = .ok (.iload_n 3, 1) := by decide +kernel
theorem dX8_follows_1 : decode cX8_follows 1 = .ok (.ifCond .eq 7, 3) := by decide +kernel
theorem dX8_follows_4 : decode cX8_follows 4 = .ok (.iconst 4, 1) := by decide +kernel
theorem dX8_follows_5 : decode cX8_follows 5 = .ok (.goto 4, 3) := by decide +kernel
theorem dX8_follows_8 : decode cX8_follows 8 = .ok (.iconst 2, 1) := by decide +kernel
theorem dX8_follows_9 : decode cX8_follows 9 = .ok (.istore 4, 2) := by decide +kernel
theorem dX8_follows_11 : decode cX8_follows 11 = .ok (.iload_n 3, 1) := by decide +kernel
theorem dX8_follows_12 : decode cX8_follows 12 = .ok (.ifCond .eq 7, 3) := by decide +kernel
theorem dX8_follows_15 : decode cX8_follows 15 = .ok (.iconst 2, 1) := by decide +kernel
theorem dX8_follows_16 : decode cX8_follows 16 = .ok (.goto 4, 3) := by decide +kernel
theorem dX8_follows_19 : decode cX8_follows 19 = .ok (.iconst 4, 1) := by decide +kernel
theorem dX8_follows_20 : decode cX8_follows 20 = .ok (.istore 5, 2) := by decide +kernel
theorem dX8_follows_22 : decode cX8_follows 22 = .ok (.aload_n 0, 1) := by decide +kernel
theorem dX8_follows_23 : decode cX8_follows 23 = .ok (.getfield 7, 3) := by decide +kernel
theorem dX8_follows_26 : decode cX8_follows 26 = .ok (.iload_n 1, 1) := by decide +kernel
theorem dX8_follows_27 : decode cX8_follows 27 = .ok (.iload_n 2, 1) := by decide +kernel
theorem dX8_follows_28 : decode cX8_follows 28 = .ok (.iload_n 3, 1) := by decide +kernel
theorem dX8_follows_29 : decode cX8_follows 29 = .ok (.ifCond .eq 8, 3) := by decide +kernel
theorem dX8_follows_32 : decode cX8_follows 32 = .ok (.bipush 6, 2) := by decide +kernel
theorem dX8_follows_34 : decode cX8_follows 34 = .ok (.goto 5, 3) := by decide +kernel
theorem dX8_follows_37 : decode cX8_follows 37 = .ok (.bipush 7, 2) := by decide +kernel
theorem dX8_follows_39 : decode cX8_follows 39 = .ok (.invokestatic 92, 3) := by decide +kernel
theorem dX8_follows_42 : decode cX8_follows 42 = .ok (.iaload, 1) := by decide +kernel
theorem dX8_follows_43 : decode cX8_follows 43 = .ok (.istore 6, 2) := by decide +kernel
theorem dX8_follows_45 : decode cX8_follows 45 = .ok (.aload_n 0, 1) := by decide +kernel
theorem dX8_follows_46 : decode cX8_follows 46 = .ok (.getfield 7, 3) := by decide +kernel
theorem dX8_follows_49 : decode cX8_follows 49 = .ok (.iload_n 1, 1) := by decide +kernel
theorem dX8_follows_50 : decode cX8_follows 50 = .ok (.iload_n 2, 1) := by decide +kernel
theorem dX8_follows_51 : decode cX8_follows 51 = .ok (.iload_n 3, 1) := by decide +kernel
theorem dX8_follows_52 : decode cX8_follows 52 = .ok (.ifCond .eq 8, 3) := by decide +kernel
theorem dX8_follows_55 : decode cX8_follows 55 = .ok (.bipush 7, 2) := by decide +kernel
theorem dX8_follows_57 : decode cX8_follows 57 = .ok (.goto 5, 3) := by decide +kernel
theorem dX8_follows_60 : decode cX8_follows 60 = .ok (.bipush 6, 2) := by decide +kernel
theorem dX8_follows_62 : decode cX8_follows 62 = .ok (.invokestatic 92, 3) := by decide +kernel
theorem dX8_follows_65 : decode cX8_follows 65 = .ok (.iaload, 1) := by decide +kernel
theorem dX8_follows_66 : decode cX8_follows 66 = .ok (.istore 7, 2) := by decide +kernel
theorem dX8_follows_68 : decode cX8_follows 68 = .ok (.iconst 0, 1) := by decide +kernel
theorem dX8_follows_69 : decode cX8_follows 69 = .ok (.istore 8, 2) := by decide +kernel
theorem dX8_follows_71 : decode cX8_follows 71 = .ok (.iload 8, 2) := by decide +kernel
theorem dX8_follows_73 : decode cX8_follows 73 = .ok (.iconst 2, 1) := by decide +kernel
theorem dX8_follows_74 : decode cX8_follows 74 = .ok (.if_icmp .ge 47, 3) := by decide +kernel
theorem dX8_follows_77 : decode cX8_follows 77 = .ok (.aload_n 0, 1) := by decide +kernel
theorem dX8_follows_78 : decode cX8_follows 78 = .ok (.iload_n 1, 1) := by decide +kernel
theorem dX8_follows_79 : decode cX8_follows 79 = .ok (.iload_n 2, 1) := by decide +kernel
theorem dX8_follows_80 : decode cX8_follows 80 = .ok (.iload 5, 2) := by decide +kernel
theorem dX8_follows_82 : decode cX8_follows 82 = .ok (.iload 8, 2) := by decide +kernel
theorem dX8_follows_84 : decode cX8_follows 84 = .ok (.iadd, 1) := by decide +kernel
theorem dX8_follows_85 : decode cX8_follows 85 = .ok (.invokestatic 92, 3) := by decide +kernel
theorem dX8_follows_88 : decode cX8_follows 88 = .ok (.iload 6, 2) := by decide +kernel
theorem dX8_follows_90 : decode cX8_follows 90 = .ok (.i2l, 1) := by decide +kernel
theorem dX8_follows_91 : decode cX8_follows 91 = .ok (.lneg, 1) := by decide +kernel
theorem dX8_follows_92 : decode cX8_follows 92 = .ok (.aload_n 0, 1) := by decide +kernel
theorem dX8_follows_93 : decode cX8_follows 93 = .ok (.getfield 7, 3) := by decide +kernel
theorem dX8_follows_96 : decode cX8_follows 96 = .ok (.iload_n 1, 1) := by decide +kernel
theorem dX8_follows_97 : decode cX8_follows 97 = .ok (.iload_n 2, 1) := by decide +kernel
theorem dX8_follows_98 : decode cX8_follows 98 = .ok (.iload 4, 2) := by decide +kernel
theorem dX8_follows_100 : decode cX8_follows 100 = .ok (.iload 8, 2) := by decide +kernel
theorem dX8_follows_102 : decode cX8_follows 102 = .ok (.iadd, 1) := by decide +kernel
theorem dX8_follows_103 : decode cX8_follows 103 = .ok (.invokestatic 92, 3) := by decide +kernel
theorem dX8_follows_106 : decode cX8_follows 106 = .ok (.iaload, 1) := by decide +kernel
theorem dX8_follows_107 : decode cX8_follows 107 = .ok (.i2l, 1) := by decide +kernel
theorem dX8_follows_108 : decode cX8_follows 108 = .ok (.lmul, 1) := by decide +kernel
theorem dX8_follows_109 : decode cX8_follows 109 = .ok (.iload 7, 2) := by decide +kernel
theorem dX8_follows_111 : decode cX8_follows 111 = .ok (.i2l, 1) := by decide +kernel
theorem dX8_follows_112 : decode cX8_follows 112 = .ok (.invokevirtual 100, 3) := by decide +kernel
theorem dX8_follows_115 : decode cX8_follows 115 = .ok (.iinc 8 1, 3) := by decide +kernel
theorem dX8_follows_118 : decode cX8_follows 118 = .ok (.goto (-47), 3) := by decide +kernel
theorem dX8_follows_121 : decode cX8_follows 121 = .ok (.return_, 1) := by decide +kernel
theorem dX8_addPath_0 : decode cX8_addPath 0 = .ok (.iload_n 1, 1) := by decide +kernel
theorem dX8_addPath_1 : decode cX8_addPath 1 = .ok (.iload_n 2, 1) := by decide +kernel
theorem dX8_addPath_2 : decode cX8_addPath 2 = .ok (.invokestatic 104, 3) := by decide +kernel
theorem dX8_addPath_5 : decode cX8_addPath 5 = .ok (.ifCond .ne 6, 3) := by decide +kernel
theorem dX8_addPath_8 : decode cX8_addPath 8 = .ok (.ldc 108, 2) := by decide +kernel
theorem dX8_addPath_10 : decode cX8_addPath 10 = .ok (.ireturn, 1) := by decide +kernel
theorem dX8_addPath_11 : decode cX8_addPath 11 = .ok (.aload_n 0, 1) := by decide +kernel
theorem dX8_addPath_12 : decode cX8_addPath 12 = .ok (.getfield 7, 3) := by decide +kernel
theorem dX8_addPath_15 : decode cX8_addPath 15 = .ok (.iconst 0, 1) := by decide +kernel
theorem dX8_addPath_16 : decode cX8_addPath 16 = .ok (.iaload, 1) := by decide +kernel
theorem dX8_addPath_17 : decode cX8_addPath 17 = .ok (.bipush 6, 2) := by decide +kernel
theorem dX8_addPath_19 : decode cX8_addPath 19 = .ok (.if_icmp .ne 6, 3) := by decide +kernel
theorem dX8_addPath_22 : decode cX8_addPath 22 = .ok (.ldc 109, 2) := by decide +kernel
theorem dX8_addPath_24 : decode cX8_addPath 24 = .ok (.ireturn, 1) := by decide +kernel
theorem dX8_addPath_25 : decode cX8_addPath 25 = .ok (.aload_n 0, 1) := by decide +kernel
theorem dX8_addPath_26 : decode cX8_addPath 26 = .ok (.invokevirtual 110, 3) := by decide +kernel
theorem dX8_addPath_29 : decode cX8_addPath 29 = .ok (.aload_n 0, 1) := by decide +kernel
theorem dX8_addPath_30 : decode cX8_addPath 30 = .ok (.getfield 7, 3) := by decide +kernel
theorem dX8_addPath_33 : decode cX8_addPath 33 = .ok (.iconst 0, 1) := by decide +kernel
theorem dX8_addPath_34 : decode cX8_addPath 34 = .ok (.iaload, 1) := by decide +kernel
theorem dX8_addPath_35 : decode cX8_addPath 35 = .ok (.istore_n 3, 1) := by decide +kernel
theorem dX8_addPath_36 : decode cX8_addPath 36 = .ok (.aload_n 0, 1) := by decide +kernel
theorem dX8_addPath_37 : decode cX8_addPath 37 = .ok (.getfield 7, 3) := by decide +kernel
theorem dX8_addPath_40 : decode cX8_addPath 40 = .ok (.iconst 0, 1) := by decide +kernel
theorem dX8_addPath_41 : decode cX8_addPath 41 = .ok (.dup2, 1) := by decide +kernel
theorem dX8_addPath_42 : decode cX8_addPath 42 = .ok (.iaload, 1) := by decide +kernel
theorem dX8_addPath_43 : decode cX8_addPath 43 = .ok (.iconst 1, 1) := by decide +kernel
theorem dX8_addPath_44 : decode cX8_addPath 44 = .ok (.iadd, 1) := by decide +kernel
theorem dX8_addPath_45 : decode cX8_addPath 45 = .ok (.iastore, 1) := by decide +kernel
theorem dX8_addPath_46 : decode cX8_addPath 46 = .ok (.aload_n 0, 1) := by decide +kernel
theorem dX8_addPath_47 : decode cX8_addPath 47 = .ok (.getfield 7, 3) := by decide +kernel
theorem dX8_addPath_50 : decode cX8_addPath 50 = .ok (.iload_n 3, 1) := by decide +kernel
theorem dX8_addPath_51 : decode cX8_addPath 51 = .ok (.invokestatic 51, 3) := by decide +kernel
theorem dX8_addPath_54 : decode cX8_addPath 54 = .ok (.iconst 1, 1) := by decide +kernel
theorem dX8_addPath_55 : decode cX8_addPath 55 = .ok (.iastore, 1) := by decide +kernel
theorem dX8_addPath_56 : decode cX8_addPath 56 = .ok (.aload_n 0, 1) := by decide +kernel
theorem dX8_addPath_57 : decode cX8_addPath 57 = .ok (.getfield 7, 3) := by decide +kernel
theorem dX8_addPath_60 : decode cX8_addPath 60 = .ok (.iload_n 3, 1) := by decide +kernel
theorem dX8_addPath_61 : decode cX8_addPath 61 = .ok (.invokestatic 51, 3) := by decide +kernel
theorem dX8_addPath_64 : decode cX8_addPath 64 = .ok (.iconst 1, 1) := by decide +kernel
theorem dX8_addPath_65 : decode cX8_addPath 65 = .ok (.iadd, 1) := by decide +kernel
theorem dX8_addPath_66 : decode cX8_addPath 66 = .ok (.iconst 0, 1) := by decide +kernel
theorem dX8_addPath_67 : decode cX8_addPath 67 = .ok (.iastore, 1) := by decide +kernel
theorem dX8_addPath_68 : decode cX8_addPath 68 = .ok (.aload_n 0, 1) := by decide +kernel
theorem dX8_addPath_69 : decode cX8_addPath 69 = .ok (.iload_n 3, 1) := by decide +kernel
theorem dX8_addPath_70 : decode cX8_addPath 70 = .ok (.iconst 0, 1) := by decide +kernel
theorem dX8_addPath_71 : decode cX8_addPath 71 = .ok (.iload_n 1, 1) := by decide +kernel
theorem dX8_addPath_72 : decode cX8_addPath 72 = .ok (.ldc 113, 2) := by decide +kernel
theorem dX8_addPath_74 : decode cX8_addPath 74 = .ok (.imul, 1) := by decide +kernel
theorem dX8_addPath_75 : decode cX8_addPath 75 = .ok (.iload_n 2, 1) := by decide +kernel
theorem dX8_addPath_76 : decode cX8_addPath 76 = .ok (.ldc 113, 2) := by decide +kernel
theorem dX8_addPath_78 : decode cX8_addPath 78 = .ok (.imul, 1) := by decide +kernel
theorem dX8_addPath_79 : decode cX8_addPath 79 = .ok (.invokevirtual 114, 3) := by decide +kernel
theorem dX8_addPath_82 : decode cX8_addPath 82 = .ok (.aload_n 0, 1) := by decide +kernel
theorem dX8_addPath_83 : decode cX8_addPath 83 = .ok (.iload_n 3, 1) := by decide +kernel
theorem dX8_addPath_84 : decode cX8_addPath 84 = .ok (.invokevirtual 118, 3) := by decide +kernel
theorem dX8_addPath_87 : decode cX8_addPath 87 = .ok (.ireturn, 1) := by decide +kernel
theorem dX8_extend_0 : decode cX8_extend 0 = .ok (.aload_n 0, 1) := by decide +kernel
theorem dX8_extend_1 : decode cX8_extend 1 = .ok (.iload_n 1, 1) := by decide +kernel
theorem dX8_extend_2 : decode cX8_extend 2 = .ok (.invokevirtual 55, 3) := by decide +kernel
theorem dX8_extend_5 : decode cX8_extend 5 = .ok (.ifCond .ne 6, 3) := by decide +kernel
theorem dX8_extend_8 : decode cX8_extend 8 = .ok (.ldc 121, 2) := by decide +kernel
theorem dX8_extend_10 : decode cX8_extend 10 = .ok (.ireturn, 1) := by decide +kernel
theorem dX8_extend_11 : decode cX8_extend 11 = .ok (.iload_n 2, 1) := by decide +kernel
theorem dX8_extend_12 : decode cX8_extend 12 = .ok (.iload_n 3, 1) := by decide +kernel
theorem dX8_extend_13 : decode cX8_extend 13 = .ok (.invokestatic 104, 3) := by decide +kernel
theorem dX8_extend_16 : decode cX8_extend 16 = .ok (.ifCond .ne 6, 3) := by decide +kernel
theorem dX8_extend_19 : decode cX8_extend 19 = .ok (.ldc 108, 2) := by decide +kernel
theorem dX8_extend_21 : decode cX8_extend 21 = .ok (.ireturn, 1) := by decide +kernel
theorem dX8_extend_22 : decode cX8_extend 22 = .ok (.aload_n 0, 1) := by decide +kernel
theorem dX8_extend_23 : decode cX8_extend 23 = .ok (.iload_n 1, 1) := by decide +kernel
theorem dX8_extend_24 : decode cX8_extend 24 = .ok (.invokevirtual 62, 3) := by decide +kernel
theorem dX8_extend_27 : decode cX8_extend 27 = .ok (.ifCond .eq 6, 3) := by decide +kernel
theorem dX8_extend_30 : decode cX8_extend 30 = .ok (.ldc 122, 2) := by decide +kernel
theorem dX8_extend_32 : decode cX8_extend 32 = .ok (.ireturn, 1) := by decide +kernel
theorem dX8_extend_33 : decode cX8_extend 33 = .ok (.aload_n 0, 1) := by decide +kernel
theorem dX8_extend_34 : decode cX8_extend 34 = .ok (.iload_n 1, 1) := by decide +kernel
theorem dX8_extend_35 : decode cX8_extend 35 = .ok (.invokevirtual 59, 3) := by decide +kernel
theorem dX8_extend_38 : decode cX8_extend 38 = .ok (.bipush 12, 2) := by decide +kernel
theorem dX8_extend_40 : decode cX8_extend 40 = .ok (.if_icmp .ne 6, 3) := by decide +kernel
theorem dX8_extend_43 : decode cX8_extend 43 = .ok (.ldc 109, 2) := by decide +kernel
theorem dX8_extend_45 : decode cX8_extend 45 = .ok (.ireturn, 1) := by decide +kernel
theorem dX8_extend_46 : decode cX8_extend 46 = .ok (.aload_n 0, 1) := by decide +kernel
theorem dX8_extend_47 : decode cX8_extend 47 = .ok (.invokevirtual 110, 3) := by decide +kernel
theorem dX8_extend_50 : decode cX8_extend 50 = .ok (.aload_n 0, 1) := by decide +kernel
theorem dX8_extend_51 : decode cX8_extend 51 = .ok (.iload_n 1, 1) := by decide +kernel
theorem dX8_extend_52 : decode cX8_extend 52 = .ok (.aload_n 0, 1) := by decide +kernel
theorem dX8_extend_53 : decode cX8_extend 53 = .ok (.iload_n 1, 1) := by decide +kernel
theorem dX8_extend_54 : decode cX8_extend 54 = .ok (.invokevirtual 59, 3) := by decide +kernel
theorem dX8_extend_57 : decode cX8_extend 57 = .ok (.iload_n 2, 1) := by decide +kernel
theorem dX8_extend_58 : decode cX8_extend 58 = .ok (.ldc 113, 2) := by decide +kernel
theorem dX8_extend_60 : decode cX8_extend 60 = .ok (.imul, 1) := by decide +kernel
theorem dX8_extend_61 : decode cX8_extend 61 = .ok (.iload_n 3, 1) := by decide +kernel
theorem dX8_extend_62 : decode cX8_extend 62 = .ok (.ldc 113, 2) := by decide +kernel
theorem dX8_extend_64 : decode cX8_extend 64 = .ok (.imul, 1) := by decide +kernel
theorem dX8_extend_65 : decode cX8_extend 65 = .ok (.invokevirtual 114, 3) := by decide +kernel
theorem dX8_extend_68 : decode cX8_extend 68 = .ok (.aload_n 0, 1) := by decide +kernel
theorem dX8_extend_69 : decode cX8_extend 69 = .ok (.getfield 7, 3) := by decide +kernel
theorem dX8_extend_72 : decode cX8_extend 72 = .ok (.iload_n 1, 1) := by decide +kernel
theorem dX8_extend_73 : decode cX8_extend 73 = .ok (.invokestatic 51, 3) := by decide +kernel
theorem dX8_extend_76 : decode cX8_extend 76 = .ok (.dup2, 1) := by decide +kernel
theorem dX8_extend_77 : decode cX8_extend 77 = .ok (.iaload, 1) := by decide +kernel
theorem dX8_extend_78 : decode cX8_extend 78 = .ok (.iconst 1, 1) := by decide +kernel
theorem dX8_extend_79 : decode cX8_extend 79 = .ok (.iadd, 1) := by decide +kernel
theorem dX8_extend_80 : decode cX8_extend 80 = .ok (.iastore, 1) := by decide +kernel
theorem dX8_extend_81 : decode cX8_extend 81 = .ok (.aload_n 0, 1) := by decide +kernel
theorem dX8_extend_82 : decode cX8_extend 82 = .ok (.aload_n 0, 1) := by decide +kernel
theorem dX8_extend_83 : decode cX8_extend 83 = .ok (.iload_n 1, 1) := by decide +kernel
theorem dX8_extend_84 : decode cX8_extend 84 = .ok (.invokevirtual 59, 3) := by decide +kernel
theorem dX8_extend_87 : decode cX8_extend 87 = .ok (.invokevirtual 118, 3) := by decide +kernel
theorem dX8_extend_90 : decode cX8_extend 90 = .ok (.ireturn, 1) := by decide +kernel
theorem dX8_removes_0 : decode cX8_removes 0 = .ok (.iload_n 1, 1) := by decide +kernel
theorem dX8_removes_1 : decode cX8_removes 1 = .ok (.invokestatic 51, 3) := by decide +kernel
theorem dX8_removes_4 : decode cX8_removes 4 = .ok (.istore_n 2, 1) := by decide +kernel
theorem dX8_removes_5 : decode cX8_removes 5 = .ok (.iload_n 2, 1) := by decide +kernel
theorem dX8_removes_6 : decode cX8_removes 6 = .ok (.iconst 5, 1) := by decide +kernel
theorem dX8_removes_7 : decode cX8_removes 7 = .ok (.invokestatic 51, 3) := by decide +kernel
theorem dX8_removes_10 : decode cX8_removes 10 = .ok (.if_icmp .ge 24, 3) := by decide +kernel
theorem dX8_removes_13 : decode cX8_removes 13 = .ok (.aload_n 0, 1) := by decide +kernel
theorem dX8_removes_14 : decode cX8_removes 14 = .ok (.getfield 7, 3) := by decide +kernel
theorem dX8_removes_17 : decode cX8_removes 17 = .ok (.iload_n 2, 1) := by decide +kernel
theorem dX8_removes_18 : decode cX8_removes 18 = .ok (.aload_n 0, 1) := by decide +kernel
theorem dX8_removes_19 : decode cX8_removes 19 = .ok (.getfield 7, 3) := by decide +kernel
theorem dX8_removes_22 : decode cX8_removes 22 = .ok (.iload_n 2, 1) := by decide +kernel
theorem dX8_removes_23 : decode cX8_removes 23 = .ok (.bipush 98, 2) := by decide +kernel
theorem dX8_removes_25 : decode cX8_removes 25 = .ok (.iadd, 1) := by decide +kernel
theorem dX8_removes_26 : decode cX8_removes 26 = .ok (.iaload, 1) := by decide +kernel
theorem dX8_removes_27 : decode cX8_removes 27 = .ok (.iastore, 1) := by decide +kernel
theorem dX8_removes_28 : decode cX8_removes 28 = .ok (.iinc 2 1, 3) := by decide +kernel
theorem dX8_removes_31 : decode cX8_removes 31 = .ok (.goto (-26), 3) := by decide +kernel
theorem dX8_removes_34 : decode cX8_removes 34 = .ok (.aload_n 0, 1) := by decide +kernel
theorem dX8_removes_35 : decode cX8_removes 35 = .ok (.getfield 7, 3) := by decide +kernel
theorem dX8_removes_38 : decode cX8_removes 38 = .ok (.iconst 0, 1) := by decide +kernel
theorem dX8_removes_39 : decode cX8_removes 39 = .ok (.dup2, 1) := by decide +kernel
theorem dX8_removes_40 : decode cX8_removes 40 = .ok (.iaload, 1) := by decide +kernel
theorem dX8_removes_41 : decode cX8_removes 41 = .ok (.iconst 1, 1) := by decide +kernel
theorem dX8_removes_42 : decode cX8_removes 42 = .ok (.isub, 1) := by decide +kernel
theorem dX8_removes_43 : decode cX8_removes 43 = .ok (.iastore, 1) := by decide +kernel
theorem dX8_removes_44 : decode cX8_removes 44 = .ok (.return_, 1) := by decide +kernel
theorem dX8_removePath_0 : decode cX8_removePath 0 = .ok (.aload_n 0, 1) := by decide +kernel
theorem dX8_removePath_1 : decode cX8_removePath 1 = .ok (.iload_n 1, 1) := by decide +kernel
theorem dX8_removePath_2 : decode cX8_removePath 2 = .ok (.invokevirtual 55, 3) := by decide +kernel
theorem dX8_removePath_5 : decode cX8_removePath 5 = .ok (.ifCond .ne 6, 3) := by decide +kernel
theorem dX8_removePath_8 : decode cX8_removePath 8 = .ok (.ldc 121, 2) := by decide +kernel
theorem dX8_removePath_10 : decode cX8_removePath 10 = .ok (.ireturn, 1) := by decide +kernel
theorem dX8_removePath_11 : decode cX8_removePath 11 = .ok (.aload_n 0, 1) := by decide +kernel
theorem dX8_removePath_12 : decode cX8_removePath 12 = .ok (.invokevirtual 110, 3) := by decide +kernel
theorem dX8_removePath_15 : decode cX8_removePath 15 = .ok (.aload_n 0, 1) := by decide +kernel
theorem dX8_removePath_16 : decode cX8_removePath 16 = .ok (.iload_n 1, 1) := by decide +kernel
theorem dX8_removePath_17 : decode cX8_removePath 17 = .ok (.invokevirtual 123, 3) := by decide +kernel
theorem dX8_removePath_20 : decode cX8_removePath 20 = .ok (.aload_n 0, 1) := by decide +kernel
theorem dX8_removePath_21 : decode cX8_removePath 21 = .ok (.aload_n 0, 1) := by decide +kernel
theorem dX8_removePath_22 : decode cX8_removePath 22 = .ok (.getfield 7, 3) := by decide +kernel
theorem dX8_removePath_25 : decode cX8_removePath 25 = .ok (.iconst 0, 1) := by decide +kernel
theorem dX8_removePath_26 : decode cX8_removePath 26 = .ok (.iaload, 1) := by decide +kernel
theorem dX8_removePath_27 : decode cX8_removePath 27 = .ok (.invokevirtual 118, 3) := by decide +kernel
theorem dX8_removePath_30 : decode cX8_removePath 30 = .ok (.ireturn, 1) := by decide +kernel
theorem dX8_moveNode_0 : decode cX8_moveNode 0 = .ok (.aload_n 0, 1) := by decide +kernel
theorem dX8_moveNode_1 : decode cX8_moveNode 1 = .ok (.iload_n 1, 1) := by decide +kernel
theorem dX8_moveNode_2 : decode cX8_moveNode 2 = .ok (.iload_n 2, 1) := by decide +kernel
theorem dX8_moveNode_3 : decode cX8_moveNode 3 = .ok (.invokevirtual 127, 3) := by decide +kernel
theorem dX8_moveNode_6 : decode cX8_moveNode 6 = .ok (.ifCond .ne 6, 3) := by decide +kernel
theorem dX8_moveNode_9 : decode cX8_moveNode 9 = .ok (.ldc 121, 2) := by decide +kernel
theorem dX8_moveNode_11 : decode cX8_moveNode 11 = .ok (.ireturn, 1) := by decide +kernel
theorem dX8_moveNode_12 : decode cX8_moveNode 12 = .ok (.iload_n 3, 1) := by decide +kernel
theorem dX8_moveNode_13 : decode cX8_moveNode 13 = .ok (.iload 4, 2) := by decide +kernel
theorem dX8_moveNode_15 : decode cX8_moveNode 15 = .ok (.invokestatic 104, 3) := by decide +kernel
theorem dX8_moveNode_18 : decode cX8_moveNode 18 = .ok (.ifCond .ne 6, 3) := by decide +kernel
theorem dX8_moveNode_21 : decode cX8_moveNode 21 = .ok (.ldc 108, 2) := by decide +kernel
theorem dX8_moveNode_23 : decode cX8_moveNode 23 = .ok (.ireturn, 1) := by decide +kernel
theorem dX8_moveNode_24 : decode cX8_moveNode 24 = .ok (.aload_n 0, 1) := by decide +kernel
theorem dX8_moveNode_25 : decode cX8_moveNode 25 = .ok (.invokevirtual 110, 3) := by decide +kernel
theorem dX8_moveNode_28 : decode cX8_moveNode 28 = .ok (.aload_n 0, 1) := by decide +kernel
theorem dX8_moveNode_29 : decode cX8_moveNode 29 = .ok (.iconst 0, 1) := by decide +kernel
theorem dX8_moveNode_30 : decode cX8_moveNode 30 = .ok (.putfield 84, 3) := by decide +kernel
theorem dX8_moveNode_33 : decode cX8_moveNode 33 = .ok (.aload_n 0, 1) := by decide +kernel
theorem dX8_moveNode_34 : decode cX8_moveNode 34 = .ok (.iload_n 1, 1) := by decide +kernel
theorem dX8_moveNode_35 : decode cX8_moveNode 35 = .ok (.iload_n 2, 1) := by decide +kernel
theorem dX8_moveNode_36 : decode cX8_moveNode 36 = .ok (.iconst 0, 1) := by decide +kernel
theorem dX8_moveNode_37 : decode cX8_moveNode 37 = .ok (.invokestatic 92, 3) := by decide +kernel
theorem dX8_moveNode_40 : decode cX8_moveNode 40 = .ok (.aload_n 0, 1) := by decide +kernel
theorem dX8_moveNode_41 : decode cX8_moveNode 41 = .ok (.getfield 7, 3) := by decide +kernel
theorem dX8_moveNode_44 : decode cX8_moveNode 44 = .ok (.iload_n 1, 1) := by decide +kernel
theorem dX8_moveNode_45 : decode cX8_moveNode 45 = .ok (.iload_n 2, 1) := by decide +kernel
theorem dX8_moveNode_46 : decode cX8_moveNode 46 = .ok (.iconst 0, 1) := by decide +kernel
theorem dX8_moveNode_47 : decode cX8_moveNode 47 = .ok (.invokestatic 92, 3) := by decide +kernel
theorem dX8_moveNode_50 : decode cX8_moveNode 50 = .ok (.iaload, 1) := by decide +kernel
theorem dX8_moveNode_51 : decode cX8_moveNode 51 = .ok (.i2l, 1) := by decide +kernel
theorem dX8_moveNode_52 : decode cX8_moveNode 52 = .ok (.iload_n 3, 1) := by decide +kernel
theorem dX8_moveNode_53 : decode cX8_moveNode 53 = .ok (.i2l, 1) := by decide +kernel
theorem dX8_moveNode_54 : decode cX8_moveNode 54 = .ok (.ldc2_w 130, 3) := by decide +kernel
theorem dX8_moveNode_57 : decode cX8_moveNode 57 = .ok (.lmul, 1) := by decide +kernel
theorem dX8_moveNode_58 : decode cX8_moveNode 58 = .ok (.ladd, 1) := by decide +kernel
theorem dX8_moveNode_59 : decode cX8_moveNode 59 = .ok (.lconst 1, 1) := by decide +kernel
theorem dX8_moveNode_60 : decode cX8_moveNode 60 = .ok (.invokevirtual 100, 3) := by decide +kernel
theorem dX8_moveNode_63 : decode cX8_moveNode 63 = .ok (.aload_n 0, 1) := by decide +kernel
theorem dX8_moveNode_64 : decode cX8_moveNode 64 = .ok (.iload_n 1, 1) := by decide +kernel
theorem dX8_moveNode_65 : decode cX8_moveNode 65 = .ok (.iload_n 2, 1) := by decide +kernel
theorem dX8_moveNode_66 : decode cX8_moveNode 66 = .ok (.iconst 1, 1) := by decide +kernel
theorem dX8_moveNode_67 : decode cX8_moveNode 67 = .ok (.invokestatic 92, 3) := by decide +kernel
theorem dX8_moveNode_70 : decode cX8_moveNode 70 = .ok (.aload_n 0, 1) := by decide +kernel
theorem dX8_moveNode_71 : decode cX8_moveNode 71 = .ok (.getfield 7, 3) := by decide +kernel
theorem dX8_moveNode_74 : decode cX8_moveNode 74 = .ok (.iload_n 1, 1) := by decide +kernel
theorem dX8_moveNode_75 : decode cX8_moveNode 75 = .ok (.iload_n 2, 1) := by decide +kernel
theorem dX8_moveNode_76 : decode cX8_moveNode 76 = .ok (.iconst 1, 1) := by decide +kernel
theorem dX8_moveNode_77 : decode cX8_moveNode 77 = .ok (.invokestatic 92, 3) := by decide +kernel
theorem dX8_moveNode_80 : decode cX8_moveNode 80 = .ok (.iaload, 1) := by decide +kernel
theorem dX8_moveNode_81 : decode cX8_moveNode 81 = .ok (.i2l, 1) := by decide +kernel
theorem dX8_moveNode_82 : decode cX8_moveNode 82 = .ok (.iload 4, 2) := by decide +kernel
theorem dX8_moveNode_84 : decode cX8_moveNode 84 = .ok (.i2l, 1) := by decide +kernel
theorem dX8_moveNode_85 : decode cX8_moveNode 85 = .ok (.ldc2_w 130, 3) := by decide +kernel
theorem dX8_moveNode_88 : decode cX8_moveNode 88 = .ok (.lmul, 1) := by decide +kernel
theorem dX8_moveNode_89 : decode cX8_moveNode 89 = .ok (.ladd, 1) := by decide +kernel
theorem dX8_moveNode_90 : decode cX8_moveNode 90 = .ok (.lconst 1, 1) := by decide +kernel
theorem dX8_moveNode_91 : decode cX8_moveNode 91 = .ok (.invokevirtual 100, 3) := by decide +kernel
theorem dX8_moveNode_94 : decode cX8_moveNode 94 = .ok (.aload_n 0, 1) := by decide +kernel
theorem dX8_moveNode_95 : decode cX8_moveNode 95 = .ok (.getfield 84, 3) := by decide +kernel
theorem dX8_moveNode_98 : decode cX8_moveNode 98 = .ok (.ifCond .ge 14, 3) := by decide +kernel
theorem dX8_moveNode_101 : decode cX8_moveNode 101 = .ok (.aload_n 0, 1) := by decide +kernel
theorem dX8_moveNode_102 : decode cX8_moveNode 102 = .ok (.aload_n 0, 1) := by decide +kernel
theorem dX8_moveNode_103 : decode cX8_moveNode 103 = .ok (.getfield 84, 3) := by decide +kernel
theorem dX8_moveNode_106 : decode cX8_moveNode 106 = .ok (.invokevirtual 132, 3) := by decide +kernel
theorem dX8_moveNode_109 : decode cX8_moveNode 109 = .ok (.goto 18, 3) := by decide +kernel
theorem dX8_moveNode_112 : decode cX8_moveNode 112 = .ok (.aload_n 0, 1) := by decide +kernel
theorem dX8_moveNode_113 : decode cX8_moveNode 113 = .ok (.aload_n 0, 1) := by decide +kernel
theorem dX8_moveNode_114 : decode cX8_moveNode 114 = .ok (.getfield 7, 3) := by decide +kernel
theorem dX8_moveNode_117 : decode cX8_moveNode 117 = .ok (.iload_n 1, 1) := by decide +kernel
theorem dX8_moveNode_118 : decode cX8_moveNode 118 = .ok (.iload_n 2, 1) := by decide +kernel
theorem dX8_moveNode_119 : decode cX8_moveNode 119 = .ok (.iconst 0, 1) := by decide +kernel
theorem dX8_moveNode_120 : decode cX8_moveNode 120 = .ok (.invokestatic 92, 3) := by decide +kernel
theorem dX8_moveNode_123 : decode cX8_moveNode 123 = .ok (.iaload, 1) := by decide +kernel
theorem dX8_moveNode_124 : decode cX8_moveNode 124 = .ok (.invokevirtual 118, 3) := by decide +kernel
theorem dX8_moveNode_127 : decode cX8_moveNode 127 = .ok (.ireturn, 1) := by decide +kernel
theorem dX8_setHandle_0 : decode cX8_setHandle 0 = .ok (.aload_n 0, 1) := by decide +kernel
theorem dX8_setHandle_1 : decode cX8_setHandle 1 = .ok (.iload_n 1, 1) := by decide +kernel
theorem dX8_setHandle_2 : decode cX8_setHandle 2 = .ok (.iload_n 2, 1) := by decide +kernel
theorem dX8_setHandle_3 : decode cX8_setHandle 3 = .ok (.invokevirtual 127, 3) := by decide +kernel
theorem dX8_setHandle_6 : decode cX8_setHandle 6 = .ok (.ifCond .ne 6, 3) := by decide +kernel
theorem dX8_setHandle_9 : decode cX8_setHandle 9 = .ok (.ldc 121, 2) := by decide +kernel
theorem dX8_setHandle_11 : decode cX8_setHandle 11 = .ok (.ireturn, 1) := by decide +kernel
theorem dX8_setHandle_12 : decode cX8_setHandle 12 = .ok (.iload 4, 2) := by decide +kernel
theorem dX8_setHandle_14 : decode cX8_setHandle 14 = .ok (.iload 5, 2) := by decide +kernel
theorem dX8_setHandle_16 : decode cX8_setHandle 16 = .ok (.invokestatic 104, 3) := by decide +kernel
theorem dX8_setHandle_19 : decode cX8_setHandle 19 = .ok (.ifCond .ne 6, 3) := by decide +kernel
theorem dX8_setHandle_22 : decode cX8_setHandle 22 = .ok (.ldc 108, 2) := by decide +kernel
theorem dX8_setHandle_24 : decode cX8_setHandle 24 = .ok (.ireturn, 1) := by decide +kernel
theorem dX8_setHandle_25 : decode cX8_setHandle 25 = .ok (.aload_n 0, 1) := by decide +kernel
theorem dX8_setHandle_26 : decode cX8_setHandle 26 = .ok (.invokevirtual 110, 3) := by decide +kernel
theorem dX8_setHandle_29 : decode cX8_setHandle 29 = .ok (.aload_n 0, 1) := by decide +kernel
theorem dX8_setHandle_30 : decode cX8_setHandle 30 = .ok (.iconst 0, 1) := by decide +kernel
theorem dX8_setHandle_31 : decode cX8_setHandle 31 = .ok (.putfield 84, 3) := by decide +kernel
theorem dX8_setHandle_34 : decode cX8_setHandle 34 = .ok (.iload_n 1, 1) := by decide +kernel
theorem dX8_setHandle_35 : decode cX8_setHandle 35 = .ok (.iload_n 2, 1) := by decide +kernel
theorem dX8_setHandle_36 : decode cX8_setHandle 36 = .ok (.iload_n 3, 1) := by decide +kernel
theorem dX8_setHandle_37 : decode cX8_setHandle 37 = .ok (.ifCond .eq 7, 3) := by decide +kernel
theorem dX8_setHandle_40 : decode cX8_setHandle 40 = .ok (.iconst 4, 1) := by decide +kernel
theorem dX8_setHandle_41 : decode cX8_setHandle 41 = .ok (.goto 4, 3) := by decide +kernel
theorem dX8_setHandle_44 : decode cX8_setHandle 44 = .ok (.iconst 2, 1) := by decide +kernel
theorem dX8_setHandle_45 : decode cX8_setHandle 45 = .ok (.invokestatic 92, 3) := by decide +kernel
theorem dX8_setHandle_48 : decode cX8_setHandle 48 = .ok (.istore 6, 2) := by decide +kernel
theorem dX8_setHandle_50 : decode cX8_setHandle 50 = .ok (.aload_n 0, 1) := by decide +kernel
theorem dX8_setHandle_51 : decode cX8_setHandle 51 = .ok (.getfield 7, 3) := by decide +kernel
theorem dX8_setHandle_54 : decode cX8_setHandle 54 = .ok (.iload 6, 2) := by decide +kernel
theorem dX8_setHandle_56 : decode cX8_setHandle 56 = .ok (.iload 4, 2) := by decide +kernel
theorem dX8_setHandle_58 : decode cX8_setHandle 58 = .ok (.ldc 113, 2) := by decide +kernel
theorem dX8_setHandle_60 : decode cX8_setHandle 60 = .ok (.imul, 1) := by decide +kernel
theorem dX8_setHandle_61 : decode cX8_setHandle 61 = .ok (.iastore, 1) := by decide +kernel
theorem dX8_setHandle_62 : decode cX8_setHandle 62 = .ok (.aload_n 0, 1) := by decide +kernel
theorem dX8_setHandle_63 : decode cX8_setHandle 63 = .ok (.getfield 7, 3) := by decide +kernel
theorem dX8_setHandle_66 : decode cX8_setHandle 66 = .ok (.iload 6, 2) := by decide +kernel
theorem dX8_setHandle_68 : decode cX8_setHandle 68 = .ok (.iconst 1, 1) := by decide +kernel
theorem dX8_setHandle_69 : decode cX8_setHandle 69 = .ok (.iadd, 1) := by decide +kernel
theorem dX8_setHandle_70 : decode cX8_setHandle 70 = .ok (.iload 5, 2) := by decide +kernel
theorem dX8_setHandle_72 : decode cX8_setHandle 72 = .ok (.ldc 113, 2) := by decide +kernel
theorem dX8_setHandle_74 : decode cX8_setHandle 74 = .ok (.imul, 1) := by decide +kernel
theorem dX8_setHandle_75 : decode cX8_setHandle 75 = .ok (.iastore, 1) := by decide +kernel
theorem dX8_setHandle_76 : decode cX8_setHandle 76 = .ok (.aload_n 0, 1) := by decide +kernel
theorem dX8_setHandle_77 : decode cX8_setHandle 77 = .ok (.iload_n 1, 1) := by decide +kernel
theorem dX8_setHandle_78 : decode cX8_setHandle 78 = .ok (.iload_n 2, 1) := by decide +kernel
theorem dX8_setHandle_79 : decode cX8_setHandle 79 = .ok (.invokevirtual 135, 3) := by decide +kernel
theorem dX8_setHandle_82 : decode cX8_setHandle 82 = .ok (.istore 7, 2) := by decide +kernel
theorem dX8_setHandle_84 : decode cX8_setHandle 84 = .ok (.iload 7, 2) := by decide +kernel
theorem dX8_setHandle_86 : decode cX8_setHandle 86 = .ok (.ifCond .eq 10, 3) := by decide +kernel
end
section
theorem dX8_setHandle_89 : decode cX8_setHandle 89 = .ok (.aload_n 0, 1) := by decide +kernel
theorem dX8_setHandle_90 : decode cX8_setHandle 90 = .ok (.iload_n 1, 1) := by decide +kernel
theorem dX8_setHandle_91 : decode cX8_setHandle 91 = .ok (.iload_n 2, 1) := by decide +kernel
theorem dX8_setHandle_92 : decode cX8_setHandle 92 = .ok (.iload_n 3, 1) := by decide +kernel
theorem dX8_setHandle_93 : decode cX8_setHandle 93 = .ok (.invokevirtual 138, 3) := by decide +kernel
theorem dX8_setHandle_96 : decode cX8_setHandle 96 = .ok (.aload_n 0, 1) := by decide +kernel
theorem dX8_setHandle_97 : decode cX8_setHandle 97 = .ok (.getfield 84, 3) := by decide +kernel
theorem dX8_setHandle_100 : decode cX8_setHandle 100 = .ok (.ifCond .ge 14, 3) := by decide +kernel
theorem dX8_setHandle_103 : decode cX8_setHandle 103 = .ok (.aload_n 0, 1) := by decide +kernel
theorem dX8_setHandle_104 : decode cX8_setHandle 104 = .ok (.aload_n 0, 1) := by decide +kernel
theorem dX8_setHandle_105 : decode cX8_setHandle 105 = .ok (.getfield 84, 3) := by decide +kernel
theorem dX8_setHandle_108 : decode cX8_setHandle 108 = .ok (.invokevirtual 132, 3) := by decide +kernel
theorem dX8_setHandle_111 : decode cX8_setHandle 111 = .ok (.goto 17, 3) := by decide +kernel
theorem dX8_setHandle_114 : decode cX8_setHandle 114 = .ok (.aload_n 0, 1) := by decide +kernel
theorem dX8_setHandle_115 : decode cX8_setHandle 115 = .ok (.iload 7, 2) := by decide +kernel
theorem dX8_setHandle_117 : decode cX8_setHandle 117 = .ok (.ifCond .eq 7, 3) := by decide +kernel
theorem dX8_setHandle_120 : decode cX8_setHandle 120 = .ok (.iconst 1, 1) := by decide +kernel
theorem dX8_setHandle_121 : decode cX8_setHandle 121 = .ok (.goto 4, 3) := by decide +kernel
theorem dX8_setHandle_124 : decode cX8_setHandle 124 = .ok (.iconst 0, 1) := by decide +kernel
theorem dX8_setHandle_125 : decode cX8_setHandle 125 = .ok (.invokevirtual 118, 3) := by decide +kernel
theorem dX8_setHandle_128 : decode cX8_setHandle 128 = .ok (.ireturn, 1) := by decide +kernel
theorem dX8_setSmooth_0 : decode cX8_setSmooth 0 = .ok (.aload_n 0, 1) := by decide +kernel
theorem dX8_setSmooth_1 : decode cX8_setSmooth 1 = .ok (.iload_n 1, 1) := by decide +kernel
theorem dX8_setSmooth_2 : decode cX8_setSmooth 2 = .ok (.iload_n 2, 1) := by decide +kernel
theorem dX8_setSmooth_3 : decode cX8_setSmooth 3 = .ok (.invokevirtual 127, 3) := by decide +kernel
theorem dX8_setSmooth_6 : decode cX8_setSmooth 6 = .ok (.ifCond .ne 6, 3) := by decide +kernel
theorem dX8_setSmooth_9 : decode cX8_setSmooth 9 = .ok (.ldc 121, 2) := by decide +kernel
theorem dX8_setSmooth_11 : decode cX8_setSmooth 11 = .ok (.ireturn, 1) := by decide +kernel
theorem dX8_setSmooth_12 : decode cX8_setSmooth 12 = .ok (.iload_n 3, 1) := by decide +kernel
theorem dX8_setSmooth_13 : decode cX8_setSmooth 13 = .ok (.iconst 1, 1) := by decide +kernel
theorem dX8_setSmooth_14 : decode cX8_setSmooth 14 = .ok (.sipush 999, 3) := by decide +kernel
theorem dX8_setSmooth_17 : decode cX8_setSmooth 17 = .ok (.invokestatic 47, 3) := by decide +kernel
theorem dX8_setSmooth_20 : decode cX8_setSmooth 20 = .ok (.ifCond .eq 15, 3) := by decide +kernel
theorem dX8_setSmooth_23 : decode cX8_setSmooth 23 = .ok (.iload 4, 2) := by decide +kernel
theorem dX8_setSmooth_25 : decode cX8_setSmooth 25 = .ok (.iconst 1, 1) := by decide +kernel
theorem dX8_setSmooth_26 : decode cX8_setSmooth 26 = .ok (.sipush 999, 3) := by decide +kernel
theorem dX8_setSmooth_29 : decode cX8_setSmooth 29 = .ok (.invokestatic 47, 3) := by decide +kernel
theorem dX8_setSmooth_32 : decode cX8_setSmooth 32 = .ok (.ifCond .ne 6, 3) := by decide +kernel
theorem dX8_setSmooth_35 : decode cX8_setSmooth 35 = .ok (.ldc 108, 2) := by decide +kernel
theorem dX8_setSmooth_37 : decode cX8_setSmooth 37 = .ok (.ireturn, 1) := by decide +kernel
theorem dX8_setSmooth_38 : decode cX8_setSmooth 38 = .ok (.aload_n 0, 1) := by decide +kernel
theorem dX8_setSmooth_39 : decode cX8_setSmooth 39 = .ok (.invokevirtual 110, 3) := by decide +kernel
theorem dX8_setSmooth_42 : decode cX8_setSmooth 42 = .ok (.aload_n 0, 1) := by decide +kernel
theorem dX8_setSmooth_43 : decode cX8_setSmooth 43 = .ok (.iconst 0, 1) := by decide +kernel
theorem dX8_setSmooth_44 : decode cX8_setSmooth 44 = .ok (.putfield 84, 3) := by decide +kernel
theorem dX8_setSmooth_47 : decode cX8_setSmooth 47 = .ok (.aload_n 0, 1) := by decide +kernel
theorem dX8_setSmooth_48 : decode cX8_setSmooth 48 = .ok (.iload_n 1, 1) := by decide +kernel
theorem dX8_setSmooth_49 : decode cX8_setSmooth 49 = .ok (.iload_n 2, 1) := by decide +kernel
theorem dX8_setSmooth_50 : decode cX8_setSmooth 50 = .ok (.invokevirtual 135, 3) := by decide +kernel
theorem dX8_setSmooth_53 : decode cX8_setSmooth 53 = .ok (.ifCond .eq 7, 3) := by decide +kernel
theorem dX8_setSmooth_56 : decode cX8_setSmooth 56 = .ok (.iconst 1, 1) := by decide +kernel
theorem dX8_setSmooth_57 : decode cX8_setSmooth 57 = .ok (.goto 4, 3) := by decide +kernel
theorem dX8_setSmooth_60 : decode cX8_setSmooth 60 = .ok (.iconst 0, 1) := by decide +kernel
theorem dX8_setSmooth_61 : decode cX8_setSmooth 61 = .ok (.istore 5, 2) := by decide +kernel
theorem dX8_setSmooth_63 : decode cX8_setSmooth 63 = .ok (.aload_n 0, 1) := by decide +kernel
theorem dX8_setSmooth_64 : decode cX8_setSmooth 64 = .ok (.iload_n 1, 1) := by decide +kernel
theorem dX8_setSmooth_65 : decode cX8_setSmooth 65 = .ok (.iload_n 2, 1) := by decide +kernel
theorem dX8_setSmooth_66 : decode cX8_setSmooth 66 = .ok (.iload_n 3, 1) := by decide +kernel
theorem dX8_setSmooth_67 : decode cX8_setSmooth 67 = .ok (.iload 4, 2) := by decide +kernel
theorem dX8_setSmooth_69 : decode cX8_setSmooth 69 = .ok (.invokevirtual 142, 3) := by decide +kernel
theorem dX8_setSmooth_72 : decode cX8_setSmooth 72 = .ok (.aload_n 0, 1) := by decide +kernel
theorem dX8_setSmooth_73 : decode cX8_setSmooth 73 = .ok (.getfield 7, 3) := by decide +kernel
theorem dX8_setSmooth_76 : decode cX8_setSmooth 76 = .ok (.iload_n 1, 1) := by decide +kernel
theorem dX8_setSmooth_77 : decode cX8_setSmooth 77 = .ok (.iload_n 2, 1) := by decide +kernel
theorem dX8_setSmooth_78 : decode cX8_setSmooth 78 = .ok (.iconst 4, 1) := by decide +kernel
theorem dX8_setSmooth_79 : decode cX8_setSmooth 79 = .ok (.invokestatic 92, 3) := by decide +kernel
theorem dX8_setSmooth_82 : decode cX8_setSmooth 82 = .ok (.iaload, 1) := by decide +kernel
theorem dX8_setSmooth_83 : decode cX8_setSmooth 83 = .ok (.ifCond .ne 17, 3) := by decide +kernel
theorem dX8_setSmooth_86 : decode cX8_setSmooth 86 = .ok (.aload_n 0, 1) := by decide +kernel
theorem dX8_setSmooth_87 : decode cX8_setSmooth 87 = .ok (.getfield 7, 3) := by decide +kernel
theorem dX8_setSmooth_90 : decode cX8_setSmooth 90 = .ok (.iload_n 1, 1) := by decide +kernel
theorem dX8_setSmooth_91 : decode cX8_setSmooth 91 = .ok (.iload_n 2, 1) := by decide +kernel
theorem dX8_setSmooth_92 : decode cX8_setSmooth 92 = .ok (.iconst 5, 1) := by decide +kernel
theorem dX8_setSmooth_93 : decode cX8_setSmooth 93 = .ok (.invokestatic 92, 3) := by decide +kernel
theorem dX8_setSmooth_96 : decode cX8_setSmooth 96 = .ok (.iaload, 1) := by decide +kernel
theorem dX8_setSmooth_97 : decode cX8_setSmooth 97 = .ok (.ifCond .eq 7, 3) := by decide +kernel
theorem dX8_setSmooth_100 : decode cX8_setSmooth 100 = .ok (.iconst 1, 1) := by decide +kernel
theorem dX8_setSmooth_101 : decode cX8_setSmooth 101 = .ok (.goto 4, 3) := by decide +kernel
theorem dX8_setSmooth_104 : decode cX8_setSmooth 104 = .ok (.iconst 0, 1) := by decide +kernel
theorem dX8_setSmooth_105 : decode cX8_setSmooth 105 = .ok (.istore 6, 2) := by decide +kernel
theorem dX8_setSmooth_107 : decode cX8_setSmooth 107 = .ok (.aload_n 0, 1) := by decide +kernel
theorem dX8_setSmooth_108 : decode cX8_setSmooth 108 = .ok (.iload_n 1, 1) := by decide +kernel
theorem dX8_setSmooth_109 : decode cX8_setSmooth 109 = .ok (.iload_n 2, 1) := by decide +kernel
theorem dX8_setSmooth_110 : decode cX8_setSmooth 110 = .ok (.iload 6, 2) := by decide +kernel
theorem dX8_setSmooth_112 : decode cX8_setSmooth 112 = .ok (.invokevirtual 138, 3) := by decide +kernel
theorem dX8_setSmooth_115 : decode cX8_setSmooth 115 = .ok (.aload_n 0, 1) := by decide +kernel
theorem dX8_setSmooth_116 : decode cX8_setSmooth 116 = .ok (.getfield 84, 3) := by decide +kernel
theorem dX8_setSmooth_119 : decode cX8_setSmooth 119 = .ok (.ifCond .ge 14, 3) := by decide +kernel
theorem dX8_setSmooth_122 : decode cX8_setSmooth 122 = .ok (.aload_n 0, 1) := by decide +kernel
theorem dX8_setSmooth_123 : decode cX8_setSmooth 123 = .ok (.aload_n 0, 1) := by decide +kernel
theorem dX8_setSmooth_124 : decode cX8_setSmooth 124 = .ok (.getfield 84, 3) := by decide +kernel
theorem dX8_setSmooth_127 : decode cX8_setSmooth 127 = .ok (.invokevirtual 132, 3) := by decide +kernel
theorem dX8_setSmooth_130 : decode cX8_setSmooth 130 = .ok (.goto 9, 3) := by decide +kernel
theorem dX8_setSmooth_133 : decode cX8_setSmooth 133 = .ok (.aload_n 0, 1) := by decide +kernel
theorem dX8_setSmooth_134 : decode cX8_setSmooth 134 = .ok (.iload 5, 2) := by decide +kernel
theorem dX8_setSmooth_136 : decode cX8_setSmooth 136 = .ok (.invokevirtual 118, 3) := by decide +kernel
theorem dX8_setSmooth_139 : decode cX8_setSmooth 139 = .ok (.ireturn, 1) := by decide +kernel
theorem dX8_setCorner_0 : decode cX8_setCorner 0 = .ok (.aload_n 0, 1) := by decide +kernel
theorem dX8_setCorner_1 : decode cX8_setCorner 1 = .ok (.iload_n 1, 1) := by decide +kernel
theorem dX8_setCorner_2 : decode cX8_setCorner 2 = .ok (.iload_n 2, 1) := by decide +kernel
theorem dX8_setCorner_3 : decode cX8_setCorner 3 = .ok (.invokevirtual 127, 3) := by decide +kernel
theorem dX8_setCorner_6 : decode cX8_setCorner 6 = .ok (.ifCond .ne 6, 3) := by decide +kernel
theorem dX8_setCorner_9 : decode cX8_setCorner 9 = .ok (.ldc 121, 2) := by decide +kernel
theorem dX8_setCorner_11 : decode cX8_setCorner 11 = .ok (.ireturn, 1) := by decide +kernel
theorem dX8_setCorner_12 : decode cX8_setCorner 12 = .ok (.aload_n 0, 1) := by decide +kernel
theorem dX8_setCorner_13 : decode cX8_setCorner 13 = .ok (.invokevirtual 110, 3) := by decide +kernel
theorem dX8_setCorner_16 : decode cX8_setCorner 16 = .ok (.aload_n 0, 1) := by decide +kernel
theorem dX8_setCorner_17 : decode cX8_setCorner 17 = .ok (.iload_n 1, 1) := by decide +kernel
theorem dX8_setCorner_18 : decode cX8_setCorner 18 = .ok (.iload_n 2, 1) := by decide +kernel
theorem dX8_setCorner_19 : decode cX8_setCorner 19 = .ok (.invokevirtual 135, 3) := by decide +kernel
theorem dX8_setCorner_22 : decode cX8_setCorner 22 = .ok (.ifCond .eq 7, 3) := by decide +kernel
theorem dX8_setCorner_25 : decode cX8_setCorner 25 = .ok (.iconst 1, 1) := by decide +kernel
theorem dX8_setCorner_26 : decode cX8_setCorner 26 = .ok (.goto 4, 3) := by decide +kernel
theorem dX8_setCorner_29 : decode cX8_setCorner 29 = .ok (.iconst 0, 1) := by decide +kernel
theorem dX8_setCorner_30 : decode cX8_setCorner 30 = .ok (.istore_n 3, 1) := by decide +kernel
theorem dX8_setCorner_31 : decode cX8_setCorner 31 = .ok (.aload_n 0, 1) := by decide +kernel
theorem dX8_setCorner_32 : decode cX8_setCorner 32 = .ok (.getfield 7, 3) := by decide +kernel
theorem dX8_setCorner_35 : decode cX8_setCorner 35 = .ok (.iload_n 1, 1) := by decide +kernel
theorem dX8_setCorner_36 : decode cX8_setCorner 36 = .ok (.iload_n 2, 1) := by decide +kernel
theorem dX8_setCorner_37 : decode cX8_setCorner 37 = .ok (.bipush 6, 2) := by decide +kernel
theorem dX8_setCorner_39 : decode cX8_setCorner 39 = .ok (.invokestatic 92, 3) := by decide +kernel
theorem dX8_setCorner_42 : decode cX8_setCorner 42 = .ok (.iconst 0, 1) := by decide +kernel
theorem dX8_setCorner_43 : decode cX8_setCorner 43 = .ok (.iastore, 1) := by decide +kernel
theorem dX8_setCorner_44 : decode cX8_setCorner 44 = .ok (.aload_n 0, 1) := by decide +kernel
theorem dX8_setCorner_45 : decode cX8_setCorner 45 = .ok (.getfield 7, 3) := by decide +kernel
theorem dX8_setCorner_48 : decode cX8_setCorner 48 = .ok (.iload_n 1, 1) := by decide +kernel
theorem dX8_setCorner_49 : decode cX8_setCorner 49 = .ok (.iload_n 2, 1) := by decide +kernel
theorem dX8_setCorner_50 : decode cX8_setCorner 50 = .ok (.bipush 7, 2) := by decide +kernel
theorem dX8_setCorner_52 : decode cX8_setCorner 52 = .ok (.invokestatic 92, 3) := by decide +kernel
theorem dX8_setCorner_55 : decode cX8_setCorner 55 = .ok (.iconst 0, 1) := by decide +kernel
theorem dX8_setCorner_56 : decode cX8_setCorner 56 = .ok (.iastore, 1) := by decide +kernel
theorem dX8_setCorner_57 : decode cX8_setCorner 57 = .ok (.aload_n 0, 1) := by decide +kernel
theorem dX8_setCorner_58 : decode cX8_setCorner 58 = .ok (.iload_n 3, 1) := by decide +kernel
theorem dX8_setCorner_59 : decode cX8_setCorner 59 = .ok (.invokevirtual 118, 3) := by decide +kernel
theorem dX8_setCorner_62 : decode cX8_setCorner 62 = .ok (.ireturn, 1) := by decide +kernel
theorem dX8_controls_0 : decode cX8_controls 0 = .ok (.iload_n 2, 1) := by decide +kernel
theorem dX8_controls_1 : decode cX8_controls 1 = .ok (.iconst 1, 1) := by decide +kernel
theorem dX8_controls_2 : decode cX8_controls 2 = .ok (.iadd, 1) := by decide +kernel
theorem dX8_controls_3 : decode cX8_controls 3 = .ok (.aload_n 0, 1) := by decide +kernel
theorem dX8_controls_4 : decode cX8_controls 4 = .ok (.iload_n 1, 1) := by decide +kernel
theorem dX8_controls_5 : decode cX8_controls 5 = .ok (.invokevirtual 59, 3) := by decide +kernel
theorem dX8_controls_8 : decode cX8_controls 8 = .ok (.irem, 1) := by decide +kernel
theorem dX8_controls_9 : decode cX8_controls 9 = .ok (.istore_n 3, 1) := by decide +kernel
theorem dX8_controls_10 : decode cX8_controls 10 = .ok (.iconst 0, 1) := by decide +kernel
theorem dX8_controls_11 : decode cX8_controls 11 = .ok (.istore 4, 2) := by decide +kernel
theorem dX8_controls_13 : decode cX8_controls 13 = .ok (.iload 4, 2) := by decide +kernel
theorem dX8_controls_15 : decode cX8_controls 15 = .ok (.iconst 2, 1) := by decide +kernel
theorem dX8_controls_16 : decode cX8_controls 16 = .ok (.if_icmp .ge 125, 3) := by decide +kernel
theorem dX8_controls_19 : decode cX8_controls 19 = .ok (.aload_n 0, 1) := by decide +kernel
theorem dX8_controls_20 : decode cX8_controls 20 = .ok (.getfield 35, 3) := by decide +kernel
theorem dX8_controls_23 : decode cX8_controls 23 = .ok (.iconst 4, 1) := by decide +kernel
theorem dX8_controls_24 : decode cX8_controls 24 = .ok (.iload 4, 2) := by decide +kernel
theorem dX8_controls_26 : decode cX8_controls 26 = .ok (.imul, 1) := by decide +kernel
theorem dX8_controls_27 : decode cX8_controls 27 = .ok (.aload_n 0, 1) := by decide +kernel
theorem dX8_controls_28 : decode cX8_controls 28 = .ok (.getfield 7, 3) := by decide +kernel
theorem dX8_controls_31 : decode cX8_controls 31 = .ok (.iload_n 1, 1) := by decide +kernel
theorem dX8_controls_32 : decode cX8_controls 32 = .ok (.iload_n 2, 1) := by decide +kernel
theorem dX8_controls_33 : decode cX8_controls 33 = .ok (.iload 4, 2) := by decide +kernel
theorem dX8_controls_35 : decode cX8_controls 35 = .ok (.invokestatic 92, 3) := by decide +kernel
theorem dX8_controls_38 : decode cX8_controls 38 = .ok (.iaload, 1) := by decide +kernel
theorem dX8_controls_39 : decode cX8_controls 39 = .ok (.iastore, 1) := by decide +kernel
theorem dX8_controls_40 : decode cX8_controls 40 = .ok (.aload_n 0, 1) := by decide +kernel
theorem dX8_controls_41 : decode cX8_controls 41 = .ok (.getfield 35, 3) := by decide +kernel
theorem dX8_controls_44 : decode cX8_controls 44 = .ok (.iconst 4, 1) := by decide +kernel
theorem dX8_controls_45 : decode cX8_controls 45 = .ok (.iload 4, 2) := by decide +kernel
theorem dX8_controls_47 : decode cX8_controls 47 = .ok (.imul, 1) := by decide +kernel
theorem dX8_controls_48 : decode cX8_controls 48 = .ok (.iconst 1, 1) := by decide +kernel
theorem dX8_controls_49 : decode cX8_controls 49 = .ok (.iadd, 1) := by decide +kernel
theorem dX8_controls_50 : decode cX8_controls 50 = .ok (.aload_n 0, 1) := by decide +kernel
theorem dX8_controls_51 : decode cX8_controls 51 = .ok (.getfield 35, 3) := by decide +kernel
theorem dX8_controls_54 : decode cX8_controls 54 = .ok (.iconst 4, 1) := by decide +kernel
theorem dX8_controls_55 : decode cX8_controls 55 = .ok (.iload 4, 2) := by decide +kernel
theorem dX8_controls_57 : decode cX8_controls 57 = .ok (.imul, 1) := by decide +kernel
theorem dX8_controls_58 : decode cX8_controls 58 = .ok (.iaload, 1) := by decide +kernel
theorem dX8_controls_59 : decode cX8_controls 59 = .ok (.aload_n 0, 1) := by decide +kernel
theorem dX8_controls_60 : decode cX8_controls 60 = .ok (.getfield 7, 3) := by decide +kernel
theorem dX8_controls_63 : decode cX8_controls 63 = .ok (.iload_n 1, 1) := by decide +kernel
theorem dX8_controls_64 : decode cX8_controls 64 = .ok (.iload_n 2, 1) := by decide +kernel
theorem dX8_controls_65 : decode cX8_controls 65 = .ok (.iconst 4, 1) := by decide +kernel
theorem dX8_controls_66 : decode cX8_controls 66 = .ok (.iload 4, 2) := by decide +kernel
theorem dX8_controls_68 : decode cX8_controls 68 = .ok (.iadd, 1) := by decide +kernel
theorem dX8_controls_69 : decode cX8_controls 69 = .ok (.invokestatic 92, 3) := by decide +kernel
theorem dX8_controls_72 : decode cX8_controls 72 = .ok (.iaload, 1) := by decide +kernel
theorem dX8_controls_73 : decode cX8_controls 73 = .ok (.iadd, 1) := by decide +kernel
theorem dX8_controls_74 : decode cX8_controls 74 = .ok (.iastore, 1) := by decide +kernel
theorem dX8_controls_75 : decode cX8_controls 75 = .ok (.aload_n 0, 1) := by decide +kernel
theorem dX8_controls_76 : decode cX8_controls 76 = .ok (.getfield 35, 3) := by decide +kernel
theorem dX8_controls_79 : decode cX8_controls 79 = .ok (.iconst 4, 1) := by decide +kernel
theorem dX8_controls_80 : decode cX8_controls 80 = .ok (.iload 4, 2) := by decide +kernel
theorem dX8_controls_82 : decode cX8_controls 82 = .ok (.imul, 1) := by decide +kernel
theorem dX8_controls_83 : decode cX8_controls 83 = .ok (.iconst 3, 1) := by decide +kernel
theorem dX8_controls_84 : decode cX8_controls 84 = .ok (.iadd, 1) := by decide +kernel
theorem dX8_controls_85 : decode cX8_controls 85 = .ok (.aload_n 0, 1) := by decide +kernel
theorem dX8_controls_86 : decode cX8_controls 86 = .ok (.getfield 7, 3) := by decide +kernel
theorem dX8_controls_89 : decode cX8_controls 89 = .ok (.iload_n 1, 1) := by decide +kernel
theorem dX8_controls_90 : decode cX8_controls 90 = .ok (.iload_n 3, 1) := by decide +kernel
theorem dX8_controls_91 : decode cX8_controls 91 = .ok (.iload 4, 2) := by decide +kernel
theorem dX8_controls_93 : decode cX8_controls 93 = .ok (.invokestatic 92, 3) := by decide +kernel
theorem dX8_controls_96 : decode cX8_controls 96 = .ok (.iaload, 1) := by decide +kernel
theorem dX8_controls_97 : decode cX8_controls 97 = .ok (.iastore, 1) := by decide +kernel
theorem dX8_controls_98 : decode cX8_controls 98 = .ok (.aload_n 0, 1) := by decide +kernel
theorem dX8_controls_99 : decode cX8_controls 99 = .ok (.getfield 35, 3) := by decide +kernel
theorem dX8_controls_102 : decode cX8_controls 102 = .ok (.iconst 4, 1) := by decide +kernel
theorem dX8_controls_103 : decode cX8_controls 103 = .ok (.iload 4, 2) := by decide +kernel
theorem dX8_controls_105 : decode cX8_controls 105 = .ok (.imul, 1) := by decide +kernel
theorem dX8_controls_106 : decode cX8_controls 106 = .ok (.iconst 2, 1) := by decide +kernel
theorem dX8_controls_107 : decode cX8_controls 107 = .ok (.iadd, 1) := by decide +kernel
theorem dX8_controls_108 : decode cX8_controls 108 = .ok (.aload_n 0, 1) := by decide +kernel
theorem dX8_controls_109 : decode cX8_controls 109 = .ok (.getfield 35, 3) := by decide +kernel
theorem dX8_controls_112 : decode cX8_controls 112 = .ok (.iconst 4, 1) := by decide +kernel
theorem dX8_controls_113 : decode cX8_controls 113 = .ok (.iload 4, 2) := by decide +kernel
theorem dX8_controls_115 : decode cX8_controls 115 = .ok (.imul, 1) := by decide +kernel
theorem dX8_controls_116 : decode cX8_controls 116 = .ok (.iconst 3, 1) := by decide +kernel
theorem dX8_controls_117 : decode cX8_controls 117 = .ok (.iadd, 1) := by decide +kernel
theorem dX8_controls_118 : decode cX8_controls 118 = .ok (.iaload, 1) := by decide +kernel
theorem dX8_controls_119 : decode cX8_controls 119 = .ok (.aload_n 0, 1) := by decide +kernel
theorem dX8_controls_120 : decode cX8_controls 120 = .ok (.getfield 7, 3) := by decide +kernel
theorem dX8_controls_123 : decode cX8_controls 123 = .ok (.iload_n 1, 1) := by decide +kernel
theorem dX8_controls_124 : decode cX8_controls 124 = .ok (.iload_n 3, 1) := by decide +kernel
theorem dX8_controls_125 : decode cX8_controls 125 = .ok (.iconst 2, 1) := by decide +kernel
theorem dX8_controls_126 : decode cX8_controls 126 = .ok (.iload 4, 2) := by decide +kernel
theorem dX8_controls_128 : decode cX8_controls 128 = .ok (.iadd, 1) := by decide +kernel
theorem dX8_controls_129 : decode cX8_controls 129 = .ok (.invokestatic 92, 3) := by decide +kernel
theorem dX8_controls_132 : decode cX8_controls 132 = .ok (.iaload, 1) := by decide +kernel
theorem dX8_controls_133 : decode cX8_controls 133 = .ok (.iadd, 1) := by decide +kernel
theorem dX8_controls_134 : decode cX8_controls 134 = .ok (.iastore, 1) := by decide +kernel
theorem dX8_controls_135 : decode cX8_controls 135 = .ok (.iinc 4 1, 3) := by decide +kernel
theorem dX8_controls_138 : decode cX8_controls 138 = .ok (.goto (-125), 3) := by decide +kernel
theorem dX8_controls_141 : decode cX8_controls 141 = .ok (.return_, 1) := by decide +kernel
theorem dX8_between_0 : decode cX8_between 0 = .ok (.lload_n 0, 1) := by decide +kernel
theorem dX8_between_1 : decode cX8_between 1 = .ok (.iload 5, 2) := by decide +kernel
theorem dX8_between_3 : decode cX8_between 3 = .ok (.iload 4, 2) := by decide +kernel
theorem dX8_between_5 : decode cX8_between 5 = .ok (.isub, 1) := by decide +kernel
theorem dX8_between_6 : decode cX8_between 6 = .ok (.i2l, 1) := by decide +kernel
theorem dX8_between_7 : decode cX8_between 7 = .ok (.lmul, 1) := by decide +kernel
theorem dX8_between_8 : decode cX8_between 8 = .ok (.lload_n 2, 1) := by decide +kernel
theorem dX8_between_9 : decode cX8_between 9 = .ok (.iload 4, 2) := by decide +kernel
theorem dX8_between_11 : decode cX8_between 11 = .ok (.i2l, 1) := by decide +kernel
theorem dX8_between_12 : decode cX8_between 12 = .ok (.lmul, 1) := by decide +kernel
theorem dX8_between_13 : decode cX8_between 13 = .ok (.ladd, 1) := by decide +kernel
theorem dX8_between_14 : decode cX8_between 14 = .ok (.lreturn, 1) := by decide +kernel
theorem dX8_makesRoom_0 : decode cX8_makesRoom 0 = .ok (.aload_n 0, 1) := by decide +kernel
theorem dX8_makesRoom_1 : decode cX8_makesRoom 1 = .ok (.iload_n 1, 1) := by decide +kernel
theorem dX8_makesRoom_2 : decode cX8_makesRoom 2 = .ok (.invokevirtual 59, 3) := by decide +kernel
theorem dX8_makesRoom_5 : decode cX8_makesRoom 5 = .ok (.istore_n 3, 1) := by decide +kernel
theorem dX8_makesRoom_6 : decode cX8_makesRoom 6 = .ok (.iload_n 3, 1) := by decide +kernel
theorem dX8_makesRoom_7 : decode cX8_makesRoom 7 = .ok (.iload_n 2, 1) := by decide +kernel
theorem dX8_makesRoom_8 : decode cX8_makesRoom 8 = .ok (.if_icmp .le 19, 3) := by decide +kernel
theorem dX8_makesRoom_11 : decode cX8_makesRoom 11 = .ok (.aload_n 0, 1) := by decide +kernel
theorem dX8_makesRoom_12 : decode cX8_makesRoom 12 = .ok (.iload_n 1, 1) := by decide +kernel
theorem dX8_makesRoom_13 : decode cX8_makesRoom 13 = .ok (.iload_n 3, 1) := by decide +kernel
theorem dX8_makesRoom_14 : decode cX8_makesRoom 14 = .ok (.iconst 1, 1) := by decide +kernel
theorem dX8_makesRoom_15 : decode cX8_makesRoom 15 = .ok (.isub, 1) := by decide +kernel
theorem dX8_makesRoom_16 : decode cX8_makesRoom 16 = .ok (.iload_n 1, 1) := by decide +kernel
theorem dX8_makesRoom_17 : decode cX8_makesRoom 17 = .ok (.iload_n 3, 1) := by decide +kernel
theorem dX8_makesRoom_18 : decode cX8_makesRoom 18 = .ok (.invokevirtual 145, 3) := by decide +kernel
theorem dX8_makesRoom_21 : decode cX8_makesRoom 21 = .ok (.iinc 3 (-1), 3) := by decide +kernel
theorem dX8_makesRoom_24 : decode cX8_makesRoom 24 = .ok (.goto (-18), 3) := by decide +kernel
theorem dX8_makesRoom_27 : decode cX8_makesRoom 27 = .ok (.aload_n 0, 1) := by decide +kernel
theorem dX8_makesRoom_28 : decode cX8_makesRoom 28 = .ok (.getfield 7, 3) := by decide +kernel
theorem dX8_makesRoom_31 : decode cX8_makesRoom 31 = .ok (.iload_n 1, 1) := by decide +kernel
theorem dX8_makesRoom_32 : decode cX8_makesRoom 32 = .ok (.invokestatic 51, 3) := by decide +kernel
theorem dX8_makesRoom_35 : decode cX8_makesRoom 35 = .ok (.dup2, 1) := by decide +kernel
theorem dX8_makesRoom_36 : decode cX8_makesRoom 36 = .ok (.iaload, 1) := by decide +kernel
theorem dX8_makesRoom_37 : decode cX8_makesRoom 37 = .ok (.iconst 1, 1) := by decide +kernel
theorem dX8_makesRoom_38 : decode cX8_makesRoom 38 = .ok (.iadd, 1) := by decide +kernel
theorem dX8_makesRoom_39 : decode cX8_makesRoom 39 = .ok (.iastore, 1) := by decide +kernel
theorem dX8_makesRoom_40 : decode cX8_makesRoom 40 = .ok (.return_, 1) := by decide +kernel
theorem dX8_splits_0 : decode cX8_splits 0 = .ok (.iload_n 1, 1) := by decide +kernel
theorem dX8_splits_1 : decode cX8_splits 1 = .ok (.iload_n 2, 1) := by decide +kernel
theorem dX8_splits_2 : decode cX8_splits 2 = .ok (.iconst 4, 1) := by decide +kernel
theorem dX8_splits_3 : decode cX8_splits 3 = .ok (.iload 4, 2) := by decide +kernel
theorem dX8_splits_5 : decode cX8_splits 5 = .ok (.iadd, 1) := by decide +kernel
theorem dX8_splits_6 : decode cX8_splits 6 = .ok (.invokestatic 92, 3) := by decide +kernel
theorem dX8_splits_9 : decode cX8_splits 9 = .ok (.istore 7, 2) := by decide +kernel
theorem dX8_splits_11 : decode cX8_splits 11 = .ok (.iload_n 1, 1) := by decide +kernel
theorem dX8_splits_12 : decode cX8_splits 12 = .ok (.iload_n 2, 1) := by decide +kernel
theorem dX8_splits_13 : decode cX8_splits 13 = .ok (.iconst 1, 1) := by decide +kernel
theorem dX8_splits_14 : decode cX8_splits 14 = .ok (.iadd, 1) := by decide +kernel
theorem dX8_splits_15 : decode cX8_splits 15 = .ok (.iload 4, 2) := by decide +kernel
theorem dX8_splits_17 : decode cX8_splits 17 = .ok (.invokestatic 92, 3) := by decide +kernel
theorem dX8_splits_20 : decode cX8_splits 20 = .ok (.istore 8, 2) := by decide +kernel
theorem dX8_splits_22 : decode cX8_splits 22 = .ok (.iconst 4, 1) := by decide +kernel
theorem dX8_splits_23 : decode cX8_splits 23 = .ok (.iload 4, 2) := by decide +kernel
theorem dX8_splits_25 : decode cX8_splits 25 = .ok (.imul, 1) := by decide +kernel
theorem dX8_splits_26 : decode cX8_splits 26 = .ok (.istore 9, 2) := by decide +kernel
theorem dX8_splits_28 : decode cX8_splits 28 = .ok (.aload_n 0, 1) := by decide +kernel
theorem dX8_splits_29 : decode cX8_splits 29 = .ok (.getfield 35, 3) := by decide +kernel
theorem dX8_splits_32 : decode cX8_splits 32 = .ok (.iload 9, 2) := by decide +kernel
theorem dX8_splits_34 : decode cX8_splits 34 = .ok (.iaload, 1) := by decide +kernel
theorem dX8_splits_35 : decode cX8_splits 35 = .ok (.i2l, 1) := by decide +kernel
theorem dX8_splits_36 : decode cX8_splits 36 = .ok (.aload_n 0, 1) := by decide +kernel
theorem dX8_splits_37 : decode cX8_splits 37 = .ok (.getfield 35, 3) := by decide +kernel
theorem dX8_splits_40 : decode cX8_splits 40 = .ok (.iload 9, 2) := by decide +kernel
theorem dX8_splits_42 : decode cX8_splits 42 = .ok (.iconst 1, 1) := by decide +kernel
theorem dX8_splits_43 : decode cX8_splits 43 = .ok (.iadd, 1) := by decide +kernel
theorem dX8_splits_44 : decode cX8_splits 44 = .ok (.iaload, 1) := by decide +kernel
theorem dX8_splits_45 : decode cX8_splits 45 = .ok (.i2l, 1) := by decide +kernel
theorem dX8_splits_46 : decode cX8_splits 46 = .ok (.iload 5, 2) := by decide +kernel
theorem dX8_splits_48 : decode cX8_splits 48 = .ok (.iload 6, 2) := by decide +kernel
theorem dX8_splits_50 : decode cX8_splits 50 = .ok (.invokestatic 148, 3) := by decide +kernel
theorem dX8_splits_53 : decode cX8_splits 53 = .ok (.lstore 10, 2) := by decide +kernel
theorem dX8_splits_55 : decode cX8_splits 55 = .ok (.aload_n 0, 1) := by decide +kernel
theorem dX8_splits_56 : decode cX8_splits 56 = .ok (.getfield 35, 3) := by decide +kernel
theorem dX8_splits_59 : decode cX8_splits 59 = .ok (.iload 9, 2) := by decide +kernel
theorem dX8_splits_61 : decode cX8_splits 61 = .ok (.iconst 1, 1) := by decide +kernel
theorem dX8_splits_62 : decode cX8_splits 62 = .ok (.iadd, 1) := by decide +kernel
theorem dX8_splits_63 : decode cX8_splits 63 = .ok (.iaload, 1) := by decide +kernel
theorem dX8_splits_64 : decode cX8_splits 64 = .ok (.i2l, 1) := by decide +kernel
theorem dX8_splits_65 : decode cX8_splits 65 = .ok (.aload_n 0, 1) := by decide +kernel
theorem dX8_splits_66 : decode cX8_splits 66 = .ok (.getfield 35, 3) := by decide +kernel
theorem dX8_splits_69 : decode cX8_splits 69 = .ok (.iload 9, 2) := by decide +kernel
theorem dX8_splits_71 : decode cX8_splits 71 = .ok (.iconst 2, 1) := by decide +kernel
theorem dX8_splits_72 : decode cX8_splits 72 = .ok (.iadd, 1) := by decide +kernel
theorem dX8_splits_73 : decode cX8_splits 73 = .ok (.iaload, 1) := by decide +kernel
theorem dX8_splits_74 : decode cX8_splits 74 = .ok (.i2l, 1) := by decide +kernel
theorem dX8_splits_75 : decode cX8_splits 75 = .ok (.iload 5, 2) := by decide +kernel
theorem dX8_splits_77 : decode cX8_splits 77 = .ok (.iload 6, 2) := by decide +kernel
theorem dX8_splits_79 : decode cX8_splits 79 = .ok (.invokestatic 148, 3) := by decide +kernel
theorem dX8_splits_82 : decode cX8_splits 82 = .ok (.lstore 12, 2) := by decide +kernel
theorem dX8_splits_84 : decode cX8_splits 84 = .ok (.aload_n 0, 1) := by decide +kernel
theorem dX8_splits_85 : decode cX8_splits 85 = .ok (.getfield 35, 3) := by decide +kernel
theorem dX8_splits_88 : decode cX8_splits 88 = .ok (.iload 9, 2) := by decide +kernel
theorem dX8_splits_90 : decode cX8_splits 90 = .ok (.iconst 2, 1) := by decide +kernel
theorem dX8_splits_91 : decode cX8_splits 91 = .ok (.iadd, 1) := by decide +kernel
theorem dX8_splits_92 : decode cX8_splits 92 = .ok (.iaload, 1) := by decide +kernel
theorem dX8_splits_93 : decode cX8_splits 93 = .ok (.i2l, 1) := by decide +kernel
theorem dX8_splits_94 : decode cX8_splits 94 = .ok (.aload_n 0, 1) := by decide +kernel
theorem dX8_splits_95 : decode cX8_splits 95 = .ok (.getfield 35, 3) := by decide +kernel
theorem dX8_splits_98 : decode cX8_splits 98 = .ok (.iload 9, 2) := by decide +kernel
theorem dX8_splits_100 : decode cX8_splits 100 = .ok (.iconst 3, 1) := by decide +kernel
theorem dX8_splits_101 : decode cX8_splits 101 = .ok (.iadd, 1) := by decide +kernel
theorem dX8_splits_102 : decode cX8_splits 102 = .ok (.iaload, 1) := by decide +kernel
theorem dX8_splits_103 : decode cX8_splits 103 = .ok (.i2l, 1) := by decide +kernel
theorem dX8_splits_104 : decode cX8_splits 104 = .ok (.iload 5, 2) := by decide +kernel
theorem dX8_splits_106 : decode cX8_splits 106 = .ok (.iload 6, 2) := by decide +kernel
theorem dX8_splits_108 : decode cX8_splits 108 = .ok (.invokestatic 148, 3) := by decide +kernel
theorem dX8_splits_111 : decode cX8_splits 111 = .ok (.lstore 14, 2) := by decide +kernel
theorem dX8_splits_113 : decode cX8_splits 113 = .ok (.lload 10, 2) := by decide +kernel
theorem dX8_splits_115 : decode cX8_splits 115 = .ok (.lload 12, 2) := by decide +kernel
theorem dX8_splits_117 : decode cX8_splits 117 = .ok (.iload 5, 2) := by decide +kernel
theorem dX8_splits_119 : decode cX8_splits 119 = .ok (.iload 6, 2) := by decide +kernel
theorem dX8_splits_121 : decode cX8_splits 121 = .ok (.invokestatic 148, 3) := by decide +kernel
theorem dX8_splits_124 : decode cX8_splits 124 = .ok (.lstore 16, 2) := by decide +kernel
theorem dX8_splits_126 : decode cX8_splits 126 = .ok (.lload 12, 2) := by decide +kernel
theorem dX8_splits_128 : decode cX8_splits 128 = .ok (.lload 14, 2) := by decide +kernel
theorem dX8_splits_130 : decode cX8_splits 130 = .ok (.iload 5, 2) := by decide +kernel
theorem dX8_splits_132 : decode cX8_splits 132 = .ok (.iload 6, 2) := by decide +kernel
theorem dX8_splits_134 : decode cX8_splits 134 = .ok (.invokestatic 148, 3) := by decide +kernel
theorem dX8_splits_137 : decode cX8_splits 137 = .ok (.lstore 18, 2) := by decide +kernel
theorem dX8_splits_139 : decode cX8_splits 139 = .ok (.lload 16, 2) := by decide +kernel
theorem dX8_splits_141 : decode cX8_splits 141 = .ok (.lload 18, 2) := by decide +kernel
theorem dX8_splits_143 : decode cX8_splits 143 = .ok (.iload 5, 2) := by decide +kernel
theorem dX8_splits_145 : decode cX8_splits 145 = .ok (.iload 6, 2) := by decide +kernel
theorem dX8_splits_147 : decode cX8_splits 147 = .ok (.invokestatic 148, 3) := by decide +kernel
theorem dX8_splits_150 : decode cX8_splits 150 = .ok (.lstore 20, 2) := by decide +kernel
theorem dX8_splits_152 : decode cX8_splits 152 = .ok (.iload 6, 2) := by decide +kernel
theorem dX8_splits_154 : decode cX8_splits 154 = .ok (.i2l, 1) := by decide +kernel
theorem dX8_splits_155 : decode cX8_splits 155 = .ok (.iload 6, 2) := by decide +kernel
theorem dX8_splits_157 : decode cX8_splits 157 = .ok (.i2l, 1) := by decide +kernel
theorem dX8_splits_158 : decode cX8_splits 158 = .ok (.lmul, 1) := by decide +kernel
theorem dX8_splits_159 : decode cX8_splits 159 = .ok (.iload 6, 2) := by decide +kernel
theorem dX8_splits_161 : decode cX8_splits 161 = .ok (.i2l, 1) := by decide +kernel
theorem dX8_splits_162 : decode cX8_splits 162 = .ok (.lmul, 1) := by decide +kernel
theorem dX8_splits_163 : decode cX8_splits 163 = .ok (.lstore 22, 2) := by decide +kernel
theorem dX8_splits_165 : decode cX8_splits 165 = .ok (.aload_n 0, 1) := by decide +kernel
theorem dX8_splits_166 : decode cX8_splits 166 = .ok (.iload 7, 2) := by decide +kernel
theorem dX8_splits_168 : decode cX8_splits 168 = .ok (.lload 10, 2) := by decide +kernel
theorem dX8_splits_170 : decode cX8_splits 170 = .ok (.iload 6, 2) := by decide +kernel
theorem dX8_splits_172 : decode cX8_splits 172 = .ok (.i2l, 1) := by decide +kernel
theorem dX8_splits_173 : decode cX8_splits 173 = .ok (.aload_n 0, 1) := by decide +kernel
theorem dX8_splits_174 : decode cX8_splits 174 = .ok (.getfield 35, 3) := by decide +kernel
theorem dX8_splits_177 : decode cX8_splits 177 = .ok (.iload 9, 2) := by decide +kernel
theorem dX8_splits_179 : decode cX8_splits 179 = .ok (.iaload, 1) := by decide +kernel
theorem dX8_splits_180 : decode cX8_splits 180 = .ok (.i2l, 1) := by decide +kernel
theorem dX8_splits_181 : decode cX8_splits 181 = .ok (.lmul, 1) := by decide +kernel
theorem dX8_splits_182 : decode cX8_splits 182 = .ok (.lsub, 1) := by decide +kernel
theorem dX8_splits_183 : decode cX8_splits 183 = .ok (.iload 6, 2) := by decide +kernel
theorem dX8_splits_185 : decode cX8_splits 185 = .ok (.i2l, 1) := by decide +kernel
theorem dX8_splits_186 : decode cX8_splits 186 = .ok (.invokevirtual 100, 3) := by decide +kernel
theorem dX8_splits_189 : decode cX8_splits 189 = .ok (.aload_n 0, 1) := by decide +kernel
theorem dX8_splits_190 : decode cX8_splits 190 = .ok (.iload_n 1, 1) := by decide +kernel
theorem dX8_splits_191 : decode cX8_splits 191 = .ok (.iload_n 3, 1) := by decide +kernel
theorem dX8_splits_192 : decode cX8_splits 192 = .ok (.iconst 2, 1) := by decide +kernel
theorem dX8_splits_193 : decode cX8_splits 193 = .ok (.iload 4, 2) := by decide +kernel
theorem dX8_splits_195 : decode cX8_splits 195 = .ok (.iadd, 1) := by decide +kernel
theorem dX8_splits_196 : decode cX8_splits 196 = .ok (.invokestatic 92, 3) := by decide +kernel
theorem dX8_splits_199 : decode cX8_splits 199 = .ok (.lload 14, 2) := by decide +kernel
theorem dX8_splits_201 : decode cX8_splits 201 = .ok (.iload 6, 2) := by decide +kernel
theorem dX8_splits_203 : decode cX8_splits 203 = .ok (.i2l, 1) := by decide +kernel
theorem dX8_splits_204 : decode cX8_splits 204 = .ok (.aload_n 0, 1) := by decide +kernel
theorem dX8_splits_205 : decode cX8_splits 205 = .ok (.getfield 35, 3) := by decide +kernel
theorem dX8_splits_208 : decode cX8_splits 208 = .ok (.iload 9, 2) := by decide +kernel
theorem dX8_splits_210 : decode cX8_splits 210 = .ok (.iconst 3, 1) := by decide +kernel
theorem dX8_splits_211 : decode cX8_splits 211 = .ok (.iadd, 1) := by decide +kernel
theorem dX8_splits_212 : decode cX8_splits 212 = .ok (.iaload, 1) := by decide +kernel
theorem dX8_splits_213 : decode cX8_splits 213 = .ok (.i2l, 1) := by decide +kernel
theorem dX8_splits_214 : decode cX8_splits 214 = .ok (.lmul, 1) := by decide +kernel
theorem dX8_splits_215 : decode cX8_splits 215 = .ok (.lsub, 1) := by decide +kernel
theorem dX8_splits_216 : decode cX8_splits 216 = .ok (.iload 6, 2) := by decide +kernel
theorem dX8_splits_218 : decode cX8_splits 218 = .ok (.i2l, 1) := by decide +kernel
theorem dX8_splits_219 : decode cX8_splits 219 = .ok (.invokevirtual 100, 3) := by decide +kernel
theorem dX8_splits_222 : decode cX8_splits 222 = .ok (.aload_n 0, 1) := by decide +kernel
theorem dX8_splits_223 : decode cX8_splits 223 = .ok (.iload 8, 2) := by decide +kernel
theorem dX8_splits_225 : decode cX8_splits 225 = .ok (.lload 20, 2) := by decide +kernel
theorem dX8_splits_227 : decode cX8_splits 227 = .ok (.lload 22, 2) := by decide +kernel
theorem dX8_splits_229 : decode cX8_splits 229 = .ok (.invokevirtual 100, 3) := by decide +kernel
theorem dX8_splits_232 : decode cX8_splits 232 = .ok (.aload_n 0, 1) := by decide +kernel
theorem dX8_splits_233 : decode cX8_splits 233 = .ok (.iload 8, 2) := by decide +kernel
theorem dX8_splits_235 : decode cX8_splits 235 = .ok (.iconst 2, 1) := by decide +kernel
theorem dX8_splits_236 : decode cX8_splits 236 = .ok (.iadd, 1) := by decide +kernel
theorem dX8_splits_237 : decode cX8_splits 237 = .ok (.iload 6, 2) := by decide +kernel
theorem dX8_splits_239 : decode cX8_splits 239 = .ok (.i2l, 1) := by decide +kernel
theorem dX8_splits_240 : decode cX8_splits 240 = .ok (.lload 16, 2) := by decide +kernel
theorem dX8_splits_242 : decode cX8_splits 242 = .ok (.lmul, 1) := by decide +kernel
theorem dX8_splits_243 : decode cX8_splits 243 = .ok (.lload 20, 2) := by decide +kernel
theorem dX8_splits_245 : decode cX8_splits 245 = .ok (.lsub, 1) := by decide +kernel
theorem dX8_splits_246 : decode cX8_splits 246 = .ok (.lload 22, 2) := by decide +kernel
theorem dX8_splits_248 : decode cX8_splits 248 = .ok (.invokevirtual 100, 3) := by decide +kernel
theorem dX8_splits_251 : decode cX8_splits 251 = .ok (.aload_n 0, 1) := by decide +kernel
theorem dX8_splits_252 : decode cX8_splits 252 = .ok (.iload 8, 2) := by decide +kernel
theorem dX8_splits_254 : decode cX8_splits 254 = .ok (.iconst 4, 1) := by decide +kernel
theorem dX8_splits_255 : decode cX8_splits 255 = .ok (.iadd, 1) := by decide +kernel
theorem dX8_splits_256 : decode cX8_splits 256 = .ok (.iload 6, 2) := by decide +kernel
theorem dX8_splits_258 : decode cX8_splits 258 = .ok (.i2l, 1) := by decide +kernel
theorem dX8_splits_259 : decode cX8_splits 259 = .ok (.lload 18, 2) := by decide +kernel
theorem dX8_splits_261 : decode cX8_splits 261 = .ok (.lmul, 1) := by decide +kernel
theorem dX8_splits_262 : decode cX8_splits 262 = .ok (.lload 20, 2) := by decide +kernel
theorem dX8_splits_264 : decode cX8_splits 264 = .ok (.lsub, 1) := by decide +kernel
theorem dX8_splits_265 : decode cX8_splits 265 = .ok (.lload 22, 2) := by decide +kernel
theorem dX8_splits_267 : decode cX8_splits 267 = .ok (.invokevirtual 100, 3) := by decide +kernel
theorem dX8_splits_270 : decode cX8_splits 270 = .ok (.return_, 1) := by decide +kernel
theorem dX8_insert_0 : decode cX8_insert 0 = .ok (.aload_n 0, 1) := by decide +kernel
theorem dX8_insert_1 : decode cX8_insert 1 = .ok (.iload_n 1, 1) := by decide +kernel
theorem dX8_insert_2 : decode cX8_insert 2 = .ok (.iload_n 2, 1) := by decide +kernel
theorem dX8_insert_3 : decode cX8_insert 3 = .ok (.invokevirtual 152, 3) := by decide +kernel
theorem dX8_insert_6 : decode cX8_insert 6 = .ok (.ifCond .ne 6, 3) := by decide +kernel
theorem dX8_insert_9 : decode cX8_insert 9 = .ok (.ldc 121, 2) := by decide +kernel
theorem dX8_insert_11 : decode cX8_insert 11 = .ok (.ireturn, 1) := by decide +kernel
theorem dX8_insert_12 : decode cX8_insert 12 = .ok (.iload 4, 2) := by decide +kernel
theorem dX8_insert_14 : decode cX8_insert 14 = .ok (.iconst 2, 1) := by decide +kernel
theorem dX8_insert_15 : decode cX8_insert 15 = .ok (.bipush 6, 2) := by decide +kernel
theorem dX8_insert_17 : decode cX8_insert 17 = .ok (.invokestatic 47, 3) := by decide +kernel
theorem dX8_insert_20 : decode cX8_insert 20 = .ok (.ifCond .eq 15, 3) := by decide +kernel
theorem dX8_insert_23 : decode cX8_insert 23 = .ok (.iload_n 3, 1) := by decide +kernel
theorem dX8_insert_24 : decode cX8_insert 24 = .ok (.iconst 1, 1) := by decide +kernel
theorem dX8_insert_25 : decode cX8_insert 25 = .ok (.iload 4, 2) := by decide +kernel
theorem dX8_insert_27 : decode cX8_insert 27 = .ok (.iconst 1, 1) := by decide +kernel
theorem dX8_insert_28 : decode cX8_insert 28 = .ok (.isub, 1) := by decide +kernel
theorem dX8_insert_29 : decode cX8_insert 29 = .ok (.invokestatic 47, 3) := by decide +kernel
theorem dX8_insert_32 : decode cX8_insert 32 = .ok (.ifCond .ne 6, 3) := by decide +kernel
theorem dX8_insert_35 : decode cX8_insert 35 = .ok (.ldc 108, 2) := by decide +kernel
theorem dX8_insert_37 : decode cX8_insert 37 = .ok (.ireturn, 1) := by decide +kernel
theorem dX8_insert_38 : decode cX8_insert 38 = .ok (.aload_n 0, 1) := by decide +kernel
theorem dX8_insert_39 : decode cX8_insert 39 = .ok (.iload_n 1, 1) := by decide +kernel
theorem dX8_insert_40 : decode cX8_insert 40 = .ok (.invokevirtual 59, 3) := by decide +kernel
theorem dX8_insert_43 : decode cX8_insert 43 = .ok (.bipush 12, 2) := by decide +kernel
theorem dX8_insert_45 : decode cX8_insert 45 = .ok (.if_icmp .ne 6, 3) := by decide +kernel
theorem dX8_insert_48 : decode cX8_insert 48 = .ok (.ldc 109, 2) := by decide +kernel
theorem dX8_insert_50 : decode cX8_insert 50 = .ok (.ireturn, 1) := by decide +kernel
theorem dX8_insert_51 : decode cX8_insert 51 = .ok (.aload_n 0, 1) := by decide +kernel
theorem dX8_insert_52 : decode cX8_insert 52 = .ok (.invokevirtual 110, 3) := by decide +kernel
theorem dX8_insert_55 : decode cX8_insert 55 = .ok (.aload_n 0, 1) := by decide +kernel
theorem dX8_insert_56 : decode cX8_insert 56 = .ok (.iconst 0, 1) := by decide +kernel
theorem dX8_insert_57 : decode cX8_insert 57 = .ok (.putfield 84, 3) := by decide +kernel
theorem dX8_insert_60 : decode cX8_insert 60 = .ok (.aload_n 0, 1) := by decide +kernel
theorem dX8_insert_61 : decode cX8_insert 61 = .ok (.iload_n 1, 1) := by decide +kernel
theorem dX8_insert_62 : decode cX8_insert 62 = .ok (.iload_n 2, 1) := by decide +kernel
theorem dX8_insert_63 : decode cX8_insert 63 = .ok (.invokevirtual 155, 3) := by decide +kernel
theorem dX8_insert_66 : decode cX8_insert 66 = .ok (.aload_n 0, 1) := by decide +kernel
theorem dX8_insert_67 : decode cX8_insert 67 = .ok (.iload_n 1, 1) := by decide +kernel
theorem dX8_insert_68 : decode cX8_insert 68 = .ok (.iload_n 2, 1) := by decide +kernel
theorem dX8_insert_69 : decode cX8_insert 69 = .ok (.iconst 1, 1) := by decide +kernel
theorem dX8_insert_70 : decode cX8_insert 70 = .ok (.iadd, 1) := by decide +kernel
theorem dX8_insert_71 : decode cX8_insert 71 = .ok (.invokevirtual 159, 3) := by decide +kernel
theorem dX8_insert_74 : decode cX8_insert 74 = .ok (.iload_n 2, 1) := by decide +kernel
theorem dX8_insert_75 : decode cX8_insert 75 = .ok (.iconst 2, 1) := by decide +kernel
theorem dX8_insert_76 : decode cX8_insert 76 = .ok (.iadd, 1) := by decide +kernel
theorem dX8_insert_77 : decode cX8_insert 77 = .ok (.aload_n 0, 1) := by decide +kernel
theorem dX8_insert_78 : decode cX8_insert 78 = .ok (.iload_n 1, 1) := by decide +kernel
theorem dX8_insert_79 : decode cX8_insert 79 = .ok (.invokevirtual 59, 3) := by decide +kernel
theorem dX8_insert_82 : decode cX8_insert 82 = .ok (.irem, 1) := by decide +kernel
theorem dX8_insert_83 : decode cX8_insert 83 = .ok (.istore 5, 2) := by decide +kernel
theorem dX8_insert_85 : decode cX8_insert 85 = .ok (.aload_n 0, 1) := by decide +kernel
theorem dX8_insert_86 : decode cX8_insert 86 = .ok (.iload_n 1, 1) := by decide +kernel
theorem dX8_insert_87 : decode cX8_insert 87 = .ok (.iload_n 2, 1) := by decide +kernel
theorem dX8_insert_88 : decode cX8_insert 88 = .ok (.iload 5, 2) := by decide +kernel
theorem dX8_insert_90 : decode cX8_insert 90 = .ok (.iconst 0, 1) := by decide +kernel
theorem dX8_insert_91 : decode cX8_insert 91 = .ok (.iload_n 3, 1) := by decide +kernel
theorem dX8_insert_92 : decode cX8_insert 92 = .ok (.iload 4, 2) := by decide +kernel
theorem dX8_insert_94 : decode cX8_insert 94 = .ok (.invokevirtual 162, 3) := by decide +kernel
theorem dX8_insert_97 : decode cX8_insert 97 = .ok (.aload_n 0, 1) := by decide +kernel
theorem dX8_insert_98 : decode cX8_insert 98 = .ok (.iload_n 1, 1) := by decide +kernel
theorem dX8_insert_99 : decode cX8_insert 99 = .ok (.iload_n 2, 1) := by decide +kernel
theorem dX8_insert_100 : decode cX8_insert 100 = .ok (.iload 5, 2) := by decide +kernel
theorem dX8_insert_102 : decode cX8_insert 102 = .ok (.iconst 1, 1) := by decide +kernel
theorem dX8_insert_103 : decode cX8_insert 103 = .ok (.iload_n 3, 1) := by decide +kernel
theorem dX8_insert_104 : decode cX8_insert 104 = .ok (.iload 4, 2) := by decide +kernel
theorem dX8_insert_106 : decode cX8_insert 106 = .ok (.invokevirtual 162, 3) := by decide +kernel
theorem dX8_insert_109 : decode cX8_insert 109 = .ok (.aload_n 0, 1) := by decide +kernel
theorem dX8_insert_110 : decode cX8_insert 110 = .ok (.iload_n 1, 1) := by decide +kernel
theorem dX8_insert_111 : decode cX8_insert 111 = .ok (.iload_n 2, 1) := by decide +kernel
theorem dX8_insert_112 : decode cX8_insert 112 = .ok (.iconst 1, 1) := by decide +kernel
theorem dX8_insert_113 : decode cX8_insert 113 = .ok (.iadd, 1) := by decide +kernel
theorem dX8_insert_114 : decode cX8_insert 114 = .ok (.iload_n 3, 1) := by decide +kernel
theorem dX8_insert_115 : decode cX8_insert 115 = .ok (.iload 4, 2) := by decide +kernel
theorem dX8_insert_117 : decode cX8_insert 117 = .ok (.iload_n 3, 1) := by decide +kernel
theorem dX8_insert_118 : decode cX8_insert 118 = .ok (.isub, 1) := by decide +kernel
theorem dX8_insert_119 : decode cX8_insert 119 = .ok (.invokevirtual 142, 3) := by decide +kernel
theorem dX8_insert_122 : decode cX8_insert 122 = .ok (.aload_n 0, 1) := by decide +kernel
theorem dX8_insert_123 : decode cX8_insert 123 = .ok (.iload_n 1, 1) := by decide +kernel
theorem dX8_insert_124 : decode cX8_insert 124 = .ok (.iload_n 2, 1) := by decide +kernel
theorem dX8_insert_125 : decode cX8_insert 125 = .ok (.invokevirtual 135, 3) := by decide +kernel
theorem dX8_insert_128 : decode cX8_insert 128 = .ok (.ifCond .eq 38, 3) := by decide +kernel
theorem dX8_insert_131 : decode cX8_insert 131 = .ok (.aload_n 0, 1) := by decide +kernel
theorem dX8_insert_132 : decode cX8_insert 132 = .ok (.iload_n 1, 1) := by decide +kernel
theorem dX8_insert_133 : decode cX8_insert 133 = .ok (.iload_n 2, 1) := by decide +kernel
theorem dX8_insert_134 : decode cX8_insert 134 = .ok (.aload_n 0, 1) := by decide +kernel
theorem dX8_insert_135 : decode cX8_insert 135 = .ok (.getfield 7, 3) := by decide +kernel
theorem dX8_insert_138 : decode cX8_insert 138 = .ok (.iload_n 1, 1) := by decide +kernel
theorem dX8_insert_139 : decode cX8_insert 139 = .ok (.iload_n 2, 1) := by decide +kernel
theorem dX8_insert_140 : decode cX8_insert 140 = .ok (.bipush 6, 2) := by decide +kernel
theorem dX8_insert_142 : decode cX8_insert 142 = .ok (.invokestatic 92, 3) := by decide +kernel
theorem dX8_insert_145 : decode cX8_insert 145 = .ok (.iaload, 1) := by decide +kernel
theorem dX8_insert_146 : decode cX8_insert 146 = .ok (.iload 4, 2) := by decide +kernel
theorem dX8_insert_148 : decode cX8_insert 148 = .ok (.imul, 1) := by decide +kernel
theorem dX8_insert_149 : decode cX8_insert 149 = .ok (.aload_n 0, 1) := by decide +kernel
theorem dX8_insert_150 : decode cX8_insert 150 = .ok (.getfield 7, 3) := by decide +kernel
theorem dX8_insert_153 : decode cX8_insert 153 = .ok (.iload_n 1, 1) := by decide +kernel
theorem dX8_insert_154 : decode cX8_insert 154 = .ok (.iload_n 2, 1) := by decide +kernel
theorem dX8_insert_155 : decode cX8_insert 155 = .ok (.bipush 7, 2) := by decide +kernel
theorem dX8_insert_157 : decode cX8_insert 157 = .ok (.invokestatic 92, 3) := by decide +kernel
theorem dX8_insert_160 : decode cX8_insert 160 = .ok (.iaload, 1) := by decide +kernel
theorem dX8_insert_161 : decode cX8_insert 161 = .ok (.iload_n 3, 1) := by decide +kernel
theorem dX8_insert_162 : decode cX8_insert 162 = .ok (.imul, 1) := by decide +kernel
theorem dX8_insert_163 : decode cX8_insert 163 = .ok (.invokevirtual 142, 3) := by decide +kernel
theorem dX8_insert_166 : decode cX8_insert 166 = .ok (.aload_n 0, 1) := by decide +kernel
theorem dX8_insert_167 : decode cX8_insert 167 = .ok (.iload_n 1, 1) := by decide +kernel
theorem dX8_insert_168 : decode cX8_insert 168 = .ok (.iload 5, 2) := by decide +kernel
theorem dX8_insert_170 : decode cX8_insert 170 = .ok (.invokevirtual 135, 3) := by decide +kernel
theorem dX8_insert_173 : decode cX8_insert 173 = .ok (.ifCond .eq 44, 3) := by decide +kernel
theorem dX8_insert_176 : decode cX8_insert 176 = .ok (.aload_n 0, 1) := by decide +kernel
theorem dX8_insert_177 : decode cX8_insert 177 = .ok (.iload_n 1, 1) := by decide +kernel
theorem dX8_insert_178 : decode cX8_insert 178 = .ok (.iload 5, 2) := by decide +kernel
theorem dX8_insert_180 : decode cX8_insert 180 = .ok (.aload_n 0, 1) := by decide +kernel
theorem dX8_insert_181 : decode cX8_insert 181 = .ok (.getfield 7, 3) := by decide +kernel
theorem dX8_insert_184 : decode cX8_insert 184 = .ok (.iload_n 1, 1) := by decide +kernel
theorem dX8_insert_185 : decode cX8_insert 185 = .ok (.iload 5, 2) := by decide +kernel
theorem dX8_insert_187 : decode cX8_insert 187 = .ok (.bipush 6, 2) := by decide +kernel
theorem dX8_insert_189 : decode cX8_insert 189 = .ok (.invokestatic 92, 3) := by decide +kernel
theorem dX8_insert_192 : decode cX8_insert 192 = .ok (.iaload, 1) := by decide +kernel
theorem dX8_insert_193 : decode cX8_insert 193 = .ok (.iload 4, 2) := by decide +kernel
theorem dX8_insert_195 : decode cX8_insert 195 = .ok (.iload_n 3, 1) := by decide +kernel
theorem dX8_insert_196 : decode cX8_insert 196 = .ok (.isub, 1) := by decide +kernel
theorem dX8_insert_197 : decode cX8_insert 197 = .ok (.imul, 1) := by decide +kernel
theorem dX8_insert_198 : decode cX8_insert 198 = .ok (.aload_n 0, 1) := by decide +kernel
theorem dX8_insert_199 : decode cX8_insert 199 = .ok (.getfield 7, 3) := by decide +kernel
theorem dX8_insert_202 : decode cX8_insert 202 = .ok (.iload_n 1, 1) := by decide +kernel
theorem dX8_insert_203 : decode cX8_insert 203 = .ok (.iload 5, 2) := by decide +kernel
theorem dX8_insert_205 : decode cX8_insert 205 = .ok (.bipush 7, 2) := by decide +kernel
theorem dX8_insert_207 : decode cX8_insert 207 = .ok (.invokestatic 92, 3) := by decide +kernel
theorem dX8_insert_210 : decode cX8_insert 210 = .ok (.iaload, 1) := by decide +kernel
theorem dX8_insert_211 : decode cX8_insert 211 = .ok (.iload 4, 2) := by decide +kernel
theorem dX8_insert_213 : decode cX8_insert 213 = .ok (.imul, 1) := by decide +kernel
theorem dX8_insert_214 : decode cX8_insert 214 = .ok (.invokevirtual 142, 3) := by decide +kernel
theorem dX8_insert_217 : decode cX8_insert 217 = .ok (.aload_n 0, 1) := by decide +kernel
theorem dX8_insert_218 : decode cX8_insert 218 = .ok (.getfield 84, 3) := by decide +kernel
theorem dX8_insert_221 : decode cX8_insert 221 = .ok (.ifCond .ge 14, 3) := by decide +kernel
theorem dX8_insert_224 : decode cX8_insert 224 = .ok (.aload_n 0, 1) := by decide +kernel
theorem dX8_insert_225 : decode cX8_insert 225 = .ok (.aload_n 0, 1) := by decide +kernel
theorem dX8_insert_226 : decode cX8_insert 226 = .ok (.getfield 84, 3) := by decide +kernel
theorem dX8_insert_229 : decode cX8_insert 229 = .ok (.invokevirtual 132, 3) := by decide +kernel
theorem dX8_insert_232 : decode cX8_insert 232 = .ok (.goto 10, 3) := by decide +kernel
theorem dX8_insert_235 : decode cX8_insert 235 = .ok (.aload_n 0, 1) := by decide +kernel
theorem dX8_insert_236 : decode cX8_insert 236 = .ok (.iload_n 2, 1) := by decide +kernel
theorem dX8_insert_237 : decode cX8_insert 237 = .ok (.iconst 1, 1) := by decide +kernel
theorem dX8_insert_238 : decode cX8_insert 238 = .ok (.iadd, 1) := by decide +kernel
theorem dX8_insert_239 : decode cX8_insert 239 = .ok (.invokevirtual 118, 3) := by decide +kernel
theorem dX8_insert_242 : decode cX8_insert 242 = .ok (.ireturn, 1) := by decide +kernel
theorem dX8_removeNode_0 : decode cX8_removeNode 0 = .ok (.aload_n 0, 1) := by decide +kernel
theorem dX8_removeNode_1 : decode cX8_removeNode 1 = .ok (.iload_n 1, 1) := by decide +kernel
theorem dX8_removeNode_2 : decode cX8_removeNode 2 = .ok (.iload_n 2, 1) := by decide +kernel
theorem dX8_removeNode_3 : decode cX8_removeNode 3 = .ok (.invokevirtual 127, 3) := by decide +kernel
theorem dX8_removeNode_6 : decode cX8_removeNode 6 = .ok (.ifCond .ne 6, 3) := by decide +kernel
theorem dX8_removeNode_9 : decode cX8_removeNode 9 = .ok (.ldc 121, 2) := by decide +kernel
theorem dX8_removeNode_11 : decode cX8_removeNode 11 = .ok (.ireturn, 1) := by decide +kernel
theorem dX8_removeNode_12 : decode cX8_removeNode 12 = .ok (.aload_n 0, 1) := by decide +kernel
theorem dX8_removeNode_13 : decode cX8_removeNode 13 = .ok (.invokevirtual 110, 3) := by decide +kernel
theorem dX8_removeNode_16 : decode cX8_removeNode 16 = .ok (.aload_n 0, 1) := by decide +kernel
theorem dX8_removeNode_17 : decode cX8_removeNode 17 = .ok (.iload_n 1, 1) := by decide +kernel
theorem dX8_removeNode_18 : decode cX8_removeNode 18 = .ok (.invokevirtual 59, 3) := by decide +kernel
theorem dX8_removeNode_21 : decode cX8_removeNode 21 = .ok (.iconst 1, 1) := by decide +kernel
theorem dX8_removeNode_22 : decode cX8_removeNode 22 = .ok (.isub, 1) := by decide +kernel
theorem dX8_removeNode_23 : decode cX8_removeNode 23 = .ok (.istore_n 3, 1) := by decide +kernel
theorem dX8_removeNode_24 : decode cX8_removeNode 24 = .ok (.iload_n 2, 1) := by decide +kernel
theorem dX8_removeNode_25 : decode cX8_removeNode 25 = .ok (.istore 4, 2) := by decide +kernel
theorem dX8_removeNode_27 : decode cX8_removeNode 27 = .ok (.iload 4, 2) := by decide +kernel
theorem dX8_removeNode_29 : decode cX8_removeNode 29 = .ok (.iload_n 3, 1) := by decide +kernel
theorem dX8_removeNode_30 : decode cX8_removeNode 30 = .ok (.if_icmp .ge 21, 3) := by decide +kernel
theorem dX8_removeNode_33 : decode cX8_removeNode 33 = .ok (.aload_n 0, 1) := by decide +kernel
theorem dX8_removeNode_34 : decode cX8_removeNode 34 = .ok (.iload_n 1, 1) := by decide +kernel
theorem dX8_removeNode_35 : decode cX8_removeNode 35 = .ok (.iload 4, 2) := by decide +kernel
theorem dX8_removeNode_37 : decode cX8_removeNode 37 = .ok (.iconst 1, 1) := by decide +kernel
theorem dX8_removeNode_38 : decode cX8_removeNode 38 = .ok (.iadd, 1) := by decide +kernel
theorem dX8_removeNode_39 : decode cX8_removeNode 39 = .ok (.iload_n 1, 1) := by decide +kernel
theorem dX8_removeNode_40 : decode cX8_removeNode 40 = .ok (.iload 4, 2) := by decide +kernel
theorem dX8_removeNode_42 : decode cX8_removeNode 42 = .ok (.invokevirtual 145, 3) := by decide +kernel
theorem dX8_removeNode_45 : decode cX8_removeNode 45 = .ok (.iinc 4 1, 3) := by decide +kernel
theorem dX8_removeNode_48 : decode cX8_removeNode 48 = .ok (.goto (-21), 3) := by decide +kernel
theorem dX8_removeNode_51 : decode cX8_removeNode 51 = .ok (.aload_n 0, 1) := by decide +kernel
theorem dX8_removeNode_52 : decode cX8_removeNode 52 = .ok (.getfield 7, 3) := by decide +kernel
theorem dX8_removeNode_55 : decode cX8_removeNode 55 = .ok (.iload_n 1, 1) := by decide +kernel
theorem dX8_removeNode_56 : decode cX8_removeNode 56 = .ok (.invokestatic 51, 3) := by decide +kernel
theorem dX8_removeNode_59 : decode cX8_removeNode 59 = .ok (.iload_n 3, 1) := by decide +kernel
theorem dX8_removeNode_60 : decode cX8_removeNode 60 = .ok (.iastore, 1) := by decide +kernel
theorem dX8_removeNode_61 : decode cX8_removeNode 61 = .ok (.aload_n 0, 1) := by decide +kernel
theorem dX8_removeNode_62 : decode cX8_removeNode 62 = .ok (.getfield 7, 3) := by decide +kernel
theorem dX8_removeNode_65 : decode cX8_removeNode 65 = .ok (.iload_n 1, 1) := by decide +kernel
theorem dX8_removeNode_66 : decode cX8_removeNode 66 = .ok (.invokestatic 51, 3) := by decide +kernel
theorem dX8_removeNode_69 : decode cX8_removeNode 69 = .ok (.iconst 1, 1) := by decide +kernel
theorem dX8_removeNode_70 : decode cX8_removeNode 70 = .ok (.iadd, 1) := by decide +kernel
theorem dX8_removeNode_71 : decode cX8_removeNode 71 = .ok (.iload_n 3, 1) := by decide +kernel
theorem dX8_removeNode_72 : decode cX8_removeNode 72 = .ok (.iconst 2, 1) := by decide +kernel
theorem dX8_removeNode_73 : decode cX8_removeNode 73 = .ok (.if_icmp .ge 7, 3) := by decide +kernel
theorem dX8_removeNode_76 : decode cX8_removeNode 76 = .ok (.iconst 0, 1) := by decide +kernel
theorem dX8_removeNode_77 : decode cX8_removeNode 77 = .ok (.goto 14, 3) := by decide +kernel
theorem dX8_removeNode_80 : decode cX8_removeNode 80 = .ok (.aload_n 0, 1) := by decide +kernel
theorem dX8_removeNode_81 : decode cX8_removeNode 81 = .ok (.getfield 7, 3) := by decide +kernel
theorem dX8_removeNode_84 : decode cX8_removeNode 84 = .ok (.iload_n 1, 1) := by decide +kernel
theorem dX8_removeNode_85 : decode cX8_removeNode 85 = .ok (.invokestatic 51, 3) := by decide +kernel
theorem dX8_removeNode_88 : decode cX8_removeNode 88 = .ok (.iconst 1, 1) := by decide +kernel
theorem dX8_removeNode_89 : decode cX8_removeNode 89 = .ok (.iadd, 1) := by decide +kernel
theorem dX8_removeNode_90 : decode cX8_removeNode 90 = .ok (.iaload, 1) := by decide +kernel
theorem dX8_removeNode_91 : decode cX8_removeNode 91 = .ok (.iastore, 1) := by decide +kernel
theorem dX8_removeNode_92 : decode cX8_removeNode 92 = .ok (.iload_n 3, 1) := by decide +kernel
theorem dX8_removeNode_93 : decode cX8_removeNode 93 = .ok (.ifCond .ne 8, 3) := by decide +kernel
theorem dX8_removeNode_96 : decode cX8_removeNode 96 = .ok (.aload_n 0, 1) := by decide +kernel
theorem dX8_removeNode_97 : decode cX8_removeNode 97 = .ok (.iload_n 1, 1) := by decide +kernel
theorem dX8_removeNode_98 : decode cX8_removeNode 98 = .ok (.invokevirtual 123, 3) := by decide +kernel
theorem dX8_removeNode_101 : decode cX8_removeNode 101 = .ok (.aload_n 0, 1) := by decide +kernel
theorem dX8_removeNode_102 : decode cX8_removeNode 102 = .ok (.iload_n 3, 1) := by decide +kernel
theorem dX8_removeNode_103 : decode cX8_removeNode 103 = .ok (.invokevirtual 118, 3) := by decide +kernel
theorem dX8_removeNode_106 : decode cX8_removeNode 106 = .ok (.ireturn, 1) := by decide +kernel
theorem dX8_rows_0 : decode cX8_rows 0 = .ok (.iconst 0, 1) := by decide +kernel
theorem dX8_rows_1 : decode cX8_rows 1 = .ok (.istore 5, 2) := by decide +kernel
theorem dX8_rows_3 : decode cX8_rows 3 = .ok (.iload 5, 2) := by decide +kernel
theorem dX8_rows_5 : decode cX8_rows 5 = .ok (.bipush 8, 2) := by decide +kernel
theorem dX8_rows_7 : decode cX8_rows 7 = .ok (.iload_n 3, 1) := by decide +kernel
theorem dX8_rows_8 : decode cX8_rows 8 = .ok (.imul, 1) := by decide +kernel
theorem dX8_rows_9 : decode cX8_rows 9 = .ok (.if_icmp .ge 34, 3) := by decide +kernel
theorem dX8_rows_12 : decode cX8_rows 12 = .ok (.aload_n 0, 1) := by decide +kernel
theorem dX8_rows_13 : decode cX8_rows 13 = .ok (.getfield 38, 3) := by decide +kernel
theorem dX8_rows_16 : decode cX8_rows 16 = .ok (.bipush 8, 2) := by decide +kernel
theorem dX8_rows_18 : decode cX8_rows 18 = .ok (.iload 4, 2) := by decide +kernel
theorem dX8_rows_20 : decode cX8_rows 20 = .ok (.imul, 1) := by decide +kernel
theorem dX8_rows_21 : decode cX8_rows 21 = .ok (.iload 5, 2) := by decide +kernel
theorem dX8_rows_23 : decode cX8_rows 23 = .ok (.iadd, 1) := by decide +kernel
theorem dX8_rows_24 : decode cX8_rows 24 = .ok (.aload_n 0, 1) := by decide +kernel
theorem dX8_rows_25 : decode cX8_rows 25 = .ok (.getfield 7, 3) := by decide +kernel
theorem dX8_rows_28 : decode cX8_rows 28 = .ok (.iload_n 1, 1) := by decide +kernel
theorem dX8_rows_29 : decode cX8_rows 29 = .ok (.iload_n 2, 1) := by decide +kernel
theorem dX8_rows_30 : decode cX8_rows 30 = .ok (.iload 5, 2) := by decide +kernel
theorem dX8_rows_32 : decode cX8_rows 32 = .ok (.invokestatic 92, 3) := by decide +kernel
theorem dX8_rows_35 : decode cX8_rows 35 = .ok (.iaload, 1) := by decide +kernel
theorem dX8_rows_36 : decode cX8_rows 36 = .ok (.iastore, 1) := by decide +kernel
theorem dX8_rows_37 : decode cX8_rows 37 = .ok (.iinc 5 1, 3) := by decide +kernel
theorem dX8_rows_40 : decode cX8_rows 40 = .ok (.goto (-37), 3) := by decide +kernel
theorem dX8_rows_43 : decode cX8_rows 43 = .ok (.return_, 1) := by decide +kernel
theorem dX8_unrows_0 : decode cX8_unrows 0 = .ok (.iconst 0, 1) := by decide +kernel
theorem dX8_unrows_1 : decode cX8_unrows 1 = .ok (.istore_n 3, 1) := by decide +kernel
theorem dX8_unrows_2 : decode cX8_unrows 2 = .ok (.iload_n 3, 1) := by decide +kernel
theorem dX8_unrows_3 : decode cX8_unrows 3 = .ok (.bipush 8, 2) := by decide +kernel
theorem dX8_unrows_5 : decode cX8_unrows 5 = .ok (.iload_n 2, 1) := by decide +kernel
theorem dX8_unrows_6 : decode cX8_unrows 6 = .ok (.imul, 1) := by decide +kernel
theorem dX8_unrows_7 : decode cX8_unrows 7 = .ok (.if_icmp .ge 26, 3) := by decide +kernel
theorem dX8_unrows_10 : decode cX8_unrows 10 = .ok (.aload_n 0, 1) := by decide +kernel
theorem dX8_unrows_11 : decode cX8_unrows 11 = .ok (.getfield 7, 3) := by decide +kernel
theorem dX8_unrows_14 : decode cX8_unrows 14 = .ok (.iload_n 1, 1) := by decide +kernel
theorem dX8_unrows_15 : decode cX8_unrows 15 = .ok (.iconst 0, 1) := by decide +kernel
theorem dX8_unrows_16 : decode cX8_unrows 16 = .ok (.iload_n 3, 1) := by decide +kernel
theorem dX8_unrows_17 : decode cX8_unrows 17 = .ok (.invokestatic 92, 3) := by decide +kernel
theorem dX8_unrows_20 : decode cX8_unrows 20 = .ok (.aload_n 0, 1) := by decide +kernel
theorem dX8_unrows_21 : decode cX8_unrows 21 = .ok (.getfield 38, 3) := by decide +kernel
theorem dX8_unrows_24 : decode cX8_unrows 24 = .ok (.iload_n 3, 1) := by decide +kernel
theorem dX8_unrows_25 : decode cX8_unrows 25 = .ok (.iaload, 1) := by decide +kernel
theorem dX8_unrows_26 : decode cX8_unrows 26 = .ok (.iastore, 1) := by decide +kernel
theorem dX8_unrows_27 : decode cX8_unrows 27 = .ok (.iinc 3 1, 3) := by decide +kernel
theorem dX8_unrows_30 : decode cX8_unrows 30 = .ok (.goto (-28), 3) := by decide +kernel
theorem dX8_unrows_33 : decode cX8_unrows 33 = .ok (.aload_n 0, 1) := by decide +kernel
theorem dX8_unrows_34 : decode cX8_unrows 34 = .ok (.getfield 7, 3) := by decide +kernel
theorem dX8_unrows_37 : decode cX8_unrows 37 = .ok (.iload_n 1, 1) := by decide +kernel
theorem dX8_unrows_38 : decode cX8_unrows 38 = .ok (.invokestatic 51, 3) := by decide +kernel
theorem dX8_unrows_41 : decode cX8_unrows 41 = .ok (.iload_n 2, 1) := by decide +kernel
theorem dX8_unrows_42 : decode cX8_unrows 42 = .ok (.iastore, 1) := by decide +kernel
theorem dX8_unrows_43 : decode cX8_unrows 43 = .ok (.return_, 1) := by decide +kernel
theorem dX8_split_0 : decode cX8_split 0 = .ok (.aload_n 0, 1) := by decide +kernel
theorem dX8_split_1 : decode cX8_split 1 = .ok (.iload_n 1, 1) := by decide +kernel
theorem dX8_split_2 : decode cX8_split 2 = .ok (.iload_n 2, 1) := by decide +kernel
theorem dX8_split_3 : decode cX8_split 3 = .ok (.invokevirtual 127, 3) := by decide +kernel
theorem dX8_split_6 : decode cX8_split 6 = .ok (.ifCond .ne 6, 3) := by decide +kernel
theorem dX8_split_9 : decode cX8_split 9 = .ok (.ldc 121, 2) := by decide +kernel
theorem dX8_split_11 : decode cX8_split 11 = .ok (.ireturn, 1) := by decide +kernel
theorem dX8_split_12 : decode cX8_split 12 = .ok (.aload_n 0, 1) := by decide +kernel
theorem dX8_split_13 : decode cX8_split 13 = .ok (.iload_n 1, 1) := by decide +kernel
theorem dX8_split_14 : decode cX8_split 14 = .ok (.invokevirtual 59, 3) := by decide +kernel
theorem dX8_split_17 : decode cX8_split 17 = .ok (.istore_n 3, 1) := by decide +kernel
theorem dX8_split_18 : decode cX8_split 18 = .ok (.aload_n 0, 1) := by decide +kernel
theorem dX8_split_19 : decode cX8_split 19 = .ok (.iload_n 1, 1) := by decide +kernel
theorem dX8_split_20 : decode cX8_split 20 = .ok (.invokevirtual 62, 3) := by decide +kernel
theorem dX8_split_23 : decode cX8_split 23 = .ok (.istore 4, 2) := by decide +kernel
theorem dX8_split_25 : decode cX8_split 25 = .ok (.iload 4, 2) := by decide +kernel
theorem dX8_split_27 : decode cX8_split 27 = .ok (.ifCond .ne 17, 3) := by decide +kernel
theorem dX8_split_30 : decode cX8_split 30 = .ok (.iload_n 2, 1) := by decide +kernel
theorem dX8_split_31 : decode cX8_split 31 = .ok (.ifCond .eq 10, 3) := by decide +kernel
theorem dX8_split_34 : decode cX8_split 34 = .ok (.iload_n 2, 1) := by decide +kernel
theorem dX8_split_35 : decode cX8_split 35 = .ok (.iload_n 3, 1) := by decide +kernel
theorem dX8_split_36 : decode cX8_split 36 = .ok (.iconst 1, 1) := by decide +kernel
theorem dX8_split_37 : decode cX8_split 37 = .ok (.isub, 1) := by decide +kernel
theorem dX8_split_38 : decode cX8_split 38 = .ok (.if_icmp .ne 6, 3) := by decide +kernel
theorem dX8_split_41 : decode cX8_split 41 = .ok (.ldc 122, 2) := by decide +kernel
theorem dX8_split_43 : decode cX8_split 43 = .ok (.ireturn, 1) := by decide +kernel
theorem dX8_split_44 : decode cX8_split 44 = .ok (.iload 4, 2) := by decide +kernel
theorem dX8_split_46 : decode cX8_split 46 = .ok (.ifCond .eq 12, 3) := by decide +kernel
theorem dX8_split_49 : decode cX8_split 49 = .ok (.iload_n 3, 1) := by decide +kernel
theorem dX8_split_50 : decode cX8_split 50 = .ok (.bipush 12, 2) := by decide +kernel
theorem dX8_split_52 : decode cX8_split 52 = .ok (.if_icmp .ne 20, 3) := by decide +kernel
theorem dX8_split_55 : decode cX8_split 55 = .ok (.goto 14, 3) := by decide +kernel
theorem dX8_split_58 : decode cX8_split 58 = .ok (.aload_n 0, 1) := by decide +kernel
theorem dX8_split_59 : decode cX8_split 59 = .ok (.getfield 7, 3) := by decide +kernel
theorem dX8_split_62 : decode cX8_split 62 = .ok (.iconst 0, 1) := by decide +kernel
theorem dX8_split_63 : decode cX8_split 63 = .ok (.iaload, 1) := by decide +kernel
theorem dX8_split_64 : decode cX8_split 64 = .ok (.bipush 6, 2) := by decide +kernel
theorem dX8_split_66 : decode cX8_split 66 = .ok (.if_icmp .ne 6, 3) := by decide +kernel
theorem dX8_split_69 : decode cX8_split 69 = .ok (.ldc 109, 2) := by decide +kernel
theorem dX8_split_71 : decode cX8_split 71 = .ok (.ireturn, 1) := by decide +kernel
theorem dX8_split_72 : decode cX8_split 72 = .ok (.aload_n 0, 1) := by decide +kernel
theorem dX8_split_73 : decode cX8_split 73 = .ok (.invokevirtual 110, 3) := by decide +kernel
theorem dX8_split_76 : decode cX8_split 76 = .ok (.iload 4, 2) := by decide +kernel
theorem dX8_split_78 : decode cX8_split 78 = .ok (.ifCond .eq 48, 3) := by decide +kernel
theorem dX8_split_81 : decode cX8_split 81 = .ok (.aload_n 0, 1) := by decide +kernel
theorem dX8_split_82 : decode cX8_split 82 = .ok (.iload_n 1, 1) := by decide +kernel
theorem dX8_split_83 : decode cX8_split 83 = .ok (.iload_n 2, 1) := by decide +kernel
theorem dX8_split_84 : decode cX8_split 84 = .ok (.iload_n 3, 1) := by decide +kernel
theorem dX8_split_85 : decode cX8_split 85 = .ok (.iload_n 2, 1) := by decide +kernel
theorem dX8_split_86 : decode cX8_split 86 = .ok (.isub, 1) := by decide +kernel
theorem dX8_split_87 : decode cX8_split 87 = .ok (.iconst 0, 1) := by decide +kernel
theorem dX8_split_88 : decode cX8_split 88 = .ok (.invokevirtual 166, 3) := by decide +kernel
theorem dX8_split_91 : decode cX8_split 91 = .ok (.aload_n 0, 1) := by decide +kernel
theorem dX8_split_92 : decode cX8_split 92 = .ok (.iload_n 1, 1) := by decide +kernel
theorem dX8_split_93 : decode cX8_split 93 = .ok (.iconst 0, 1) := by decide +kernel
theorem dX8_split_94 : decode cX8_split 94 = .ok (.iload_n 2, 1) := by decide +kernel
theorem dX8_split_95 : decode cX8_split 95 = .ok (.iconst 1, 1) := by decide +kernel
theorem dX8_split_96 : decode cX8_split 96 = .ok (.iadd, 1) := by decide +kernel
theorem dX8_split_97 : decode cX8_split 97 = .ok (.iload_n 3, 1) := by decide +kernel
theorem dX8_split_98 : decode cX8_split 98 = .ok (.iload_n 2, 1) := by decide +kernel
theorem dX8_split_99 : decode cX8_split 99 = .ok (.isub, 1) := by decide +kernel
theorem dX8_split_100 : decode cX8_split 100 = .ok (.invokevirtual 166, 3) := by decide +kernel
theorem dX8_split_103 : decode cX8_split 103 = .ok (.aload_n 0, 1) := by decide +kernel
theorem dX8_split_104 : decode cX8_split 104 = .ok (.iload_n 1, 1) := by decide +kernel
theorem dX8_split_105 : decode cX8_split 105 = .ok (.iload_n 3, 1) := by decide +kernel
theorem dX8_split_106 : decode cX8_split 106 = .ok (.iconst 1, 1) := by decide +kernel
theorem dX8_split_107 : decode cX8_split 107 = .ok (.iadd, 1) := by decide +kernel
theorem dX8_split_108 : decode cX8_split 108 = .ok (.invokevirtual 169, 3) := by decide +kernel
theorem dX8_split_111 : decode cX8_split 111 = .ok (.aload_n 0, 1) := by decide +kernel
theorem dX8_split_112 : decode cX8_split 112 = .ok (.getfield 7, 3) := by decide +kernel
theorem dX8_split_115 : decode cX8_split 115 = .ok (.iload_n 1, 1) := by decide +kernel
theorem dX8_split_116 : decode cX8_split 116 = .ok (.invokestatic 51, 3) := by decide +kernel
theorem dX8_split_119 : decode cX8_split 119 = .ok (.iconst 1, 1) := by decide +kernel
theorem dX8_split_120 : decode cX8_split 120 = .ok (.iadd, 1) := by decide +kernel
theorem dX8_split_121 : decode cX8_split 121 = .ok (.iconst 0, 1) := by decide +kernel
theorem dX8_split_122 : decode cX8_split 122 = .ok (.iastore, 1) := by decide +kernel
theorem dX8_split_123 : decode cX8_split 123 = .ok (.goto 65, 3) := by decide +kernel
theorem dX8_split_126 : decode cX8_split 126 = .ok (.aload_n 0, 1) := by decide +kernel
theorem dX8_split_127 : decode cX8_split 127 = .ok (.getfield 7, 3) := by decide +kernel
theorem dX8_split_130 : decode cX8_split 130 = .ok (.iconst 0, 1) := by decide +kernel
theorem dX8_split_131 : decode cX8_split 131 = .ok (.iaload, 1) := by decide +kernel
theorem dX8_split_132 : decode cX8_split 132 = .ok (.istore 5, 2) := by decide +kernel
theorem dX8_split_134 : decode cX8_split 134 = .ok (.aload_n 0, 1) := by decide +kernel
theorem dX8_split_135 : decode cX8_split 135 = .ok (.getfield 7, 3) := by decide +kernel
theorem dX8_split_138 : decode cX8_split 138 = .ok (.iconst 0, 1) := by decide +kernel
theorem dX8_split_139 : decode cX8_split 139 = .ok (.dup2, 1) := by decide +kernel
theorem dX8_split_140 : decode cX8_split 140 = .ok (.iaload, 1) := by decide +kernel
theorem dX8_split_141 : decode cX8_split 141 = .ok (.iconst 1, 1) := by decide +kernel
theorem dX8_split_142 : decode cX8_split 142 = .ok (.iadd, 1) := by decide +kernel
theorem dX8_split_143 : decode cX8_split 143 = .ok (.iastore, 1) := by decide +kernel
theorem dX8_split_144 : decode cX8_split 144 = .ok (.aload_n 0, 1) := by decide +kernel
theorem dX8_split_145 : decode cX8_split 145 = .ok (.getfield 7, 3) := by decide +kernel
theorem dX8_split_148 : decode cX8_split 148 = .ok (.iload 5, 2) := by decide +kernel
theorem dX8_split_150 : decode cX8_split 150 = .ok (.invokestatic 51, 3) := by decide +kernel
theorem dX8_split_153 : decode cX8_split 153 = .ok (.iconst 1, 1) := by decide +kernel
theorem dX8_split_154 : decode cX8_split 154 = .ok (.iadd, 1) := by decide +kernel
theorem dX8_split_155 : decode cX8_split 155 = .ok (.iconst 0, 1) := by decide +kernel
theorem dX8_split_156 : decode cX8_split 156 = .ok (.iastore, 1) := by decide +kernel
theorem dX8_split_157 : decode cX8_split 157 = .ok (.aload_n 0, 1) := by decide +kernel
theorem dX8_split_158 : decode cX8_split 158 = .ok (.iload_n 1, 1) := by decide +kernel
theorem dX8_split_159 : decode cX8_split 159 = .ok (.iload_n 2, 1) := by decide +kernel
theorem dX8_split_160 : decode cX8_split 160 = .ok (.iload_n 3, 1) := by decide +kernel
theorem dX8_split_161 : decode cX8_split 161 = .ok (.iload_n 2, 1) := by decide +kernel
theorem dX8_split_162 : decode cX8_split 162 = .ok (.isub, 1) := by decide +kernel
theorem dX8_split_163 : decode cX8_split 163 = .ok (.iconst 0, 1) := by decide +kernel
theorem dX8_split_164 : decode cX8_split 164 = .ok (.invokevirtual 166, 3) := by decide +kernel
theorem dX8_split_167 : decode cX8_split 167 = .ok (.aload_n 0, 1) := by decide +kernel
theorem dX8_split_168 : decode cX8_split 168 = .ok (.iload 5, 2) := by decide +kernel
theorem dX8_split_170 : decode cX8_split 170 = .ok (.iload_n 3, 1) := by decide +kernel
theorem dX8_split_171 : decode cX8_split 171 = .ok (.iload_n 2, 1) := by decide +kernel
theorem dX8_split_172 : decode cX8_split 172 = .ok (.isub, 1) := by decide +kernel
theorem dX8_split_173 : decode cX8_split 173 = .ok (.invokevirtual 169, 3) := by decide +kernel
theorem dX8_split_176 : decode cX8_split 176 = .ok (.aload_n 0, 1) := by decide +kernel
theorem dX8_split_177 : decode cX8_split 177 = .ok (.getfield 7, 3) := by decide +kernel
theorem dX8_split_180 : decode cX8_split 180 = .ok (.iload_n 1, 1) := by decide +kernel
theorem dX8_split_181 : decode cX8_split 181 = .ok (.invokestatic 51, 3) := by decide +kernel
theorem dX8_split_184 : decode cX8_split 184 = .ok (.iload_n 2, 1) := by decide +kernel
theorem dX8_split_185 : decode cX8_split 185 = .ok (.iconst 1, 1) := by decide +kernel
theorem dX8_split_186 : decode cX8_split 186 = .ok (.iadd, 1) := by decide +kernel
theorem dX8_split_187 : decode cX8_split 187 = .ok (.iastore, 1) := by decide +kernel
theorem dX8_split_188 : decode cX8_split 188 = .ok (.aload_n 0, 1) := by decide +kernel
theorem dX8_split_189 : decode cX8_split 189 = .ok (.aload_n 0, 1) := by decide +kernel
theorem dX8_split_190 : decode cX8_split 190 = .ok (.getfield 7, 3) := by decide +kernel
theorem dX8_split_193 : decode cX8_split 193 = .ok (.iconst 0, 1) := by decide +kernel
theorem dX8_split_194 : decode cX8_split 194 = .ok (.iaload, 1) := by decide +kernel
theorem dX8_split_195 : decode cX8_split 195 = .ok (.invokevirtual 118, 3) := by decide +kernel
theorem dX8_split_198 : decode cX8_split 198 = .ok (.ireturn, 1) := by decide +kernel
theorem dX8_meet_0 : decode cX8_meet 0 = .ok (.aload_n 0, 1) := by decide +kernel
theorem dX8_meet_1 : decode cX8_meet 1 = .ok (.iload_n 1, 1) := by decide +kernel
theorem dX8_meet_2 : decode cX8_meet 2 = .ok (.invokevirtual 59, 3) := by decide +kernel
theorem dX8_meet_5 : decode cX8_meet 5 = .ok (.iconst 1, 1) := by decide +kernel
theorem dX8_meet_6 : decode cX8_meet 6 = .ok (.isub, 1) := by decide +kernel
theorem dX8_meet_7 : decode cX8_meet 7 = .ok (.istore_n 3, 1) := by decide +kernel
theorem dX8_meet_8 : decode cX8_meet 8 = .ok (.aload_n 0, 1) := by decide +kernel
theorem dX8_meet_9 : decode cX8_meet 9 = .ok (.getfield 7, 3) := by decide +kernel
theorem dX8_meet_12 : decode cX8_meet 12 = .ok (.iload_n 1, 1) := by decide +kernel
theorem dX8_meet_13 : decode cX8_meet 13 = .ok (.iload_n 3, 1) := by decide +kernel
theorem dX8_meet_14 : decode cX8_meet 14 = .ok (.iconst 0, 1) := by decide +kernel
theorem dX8_meet_15 : decode cX8_meet 15 = .ok (.invokestatic 92, 3) := by decide +kernel
theorem dX8_meet_18 : decode cX8_meet 18 = .ok (.iaload, 1) := by decide +kernel
theorem dX8_meet_19 : decode cX8_meet 19 = .ok (.aload_n 0, 1) := by decide +kernel
theorem dX8_meet_20 : decode cX8_meet 20 = .ok (.getfield 7, 3) := by decide +kernel
theorem dX8_meet_23 : decode cX8_meet 23 = .ok (.iload_n 2, 1) := by decide +kernel
theorem dX8_meet_24 : decode cX8_meet 24 = .ok (.iconst 0, 1) := by decide +kernel
theorem dX8_meet_25 : decode cX8_meet 25 = .ok (.iconst 0, 1) := by decide +kernel
theorem dX8_meet_26 : decode cX8_meet 26 = .ok (.invokestatic 92, 3) := by decide +kernel
theorem dX8_meet_29 : decode cX8_meet 29 = .ok (.iaload, 1) := by decide +kernel
theorem dX8_meet_30 : decode cX8_meet 30 = .ok (.if_icmp .ne 32, 3) := by decide +kernel
theorem dX8_meet_33 : decode cX8_meet 33 = .ok (.aload_n 0, 1) := by decide +kernel
theorem dX8_meet_34 : decode cX8_meet 34 = .ok (.getfield 7, 3) := by decide +kernel
theorem dX8_meet_37 : decode cX8_meet 37 = .ok (.iload_n 1, 1) := by decide +kernel
theorem dX8_meet_38 : decode cX8_meet 38 = .ok (.iload_n 3, 1) := by decide +kernel
theorem dX8_meet_39 : decode cX8_meet 39 = .ok (.iconst 1, 1) := by decide +kernel
theorem dX8_meet_40 : decode cX8_meet 40 = .ok (.invokestatic 92, 3) := by decide +kernel
theorem dX8_meet_43 : decode cX8_meet 43 = .ok (.iaload, 1) := by decide +kernel
theorem dX8_meet_44 : decode cX8_meet 44 = .ok (.aload_n 0, 1) := by decide +kernel
theorem dX8_meet_45 : decode cX8_meet 45 = .ok (.getfield 7, 3) := by decide +kernel
theorem dX8_meet_48 : decode cX8_meet 48 = .ok (.iload_n 2, 1) := by decide +kernel
theorem dX8_meet_49 : decode cX8_meet 49 = .ok (.iconst 0, 1) := by decide +kernel
theorem dX8_meet_50 : decode cX8_meet 50 = .ok (.iconst 1, 1) := by decide +kernel
theorem dX8_meet_51 : decode cX8_meet 51 = .ok (.invokestatic 92, 3) := by decide +kernel
theorem dX8_meet_54 : decode cX8_meet 54 = .ok (.iaload, 1) := by decide +kernel
theorem dX8_meet_55 : decode cX8_meet 55 = .ok (.if_icmp .ne 7, 3) := by decide +kernel
theorem dX8_meet_58 : decode cX8_meet 58 = .ok (.iconst 1, 1) := by decide +kernel
theorem dX8_meet_59 : decode cX8_meet 59 = .ok (.goto 4, 3) := by decide +kernel
theorem dX8_meet_62 : decode cX8_meet 62 = .ok (.iconst 0, 1) := by decide +kernel
theorem dX8_meet_63 : decode cX8_meet 63 = .ok (.ireturn, 1) := by decide +kernel
theorem dX8_unites_0 : decode cX8_unites 0 = .ok (.bipush 8, 2) := by decide +kernel
theorem dX8_unites_2 : decode cX8_unites 2 = .ok (.iload_n 1, 1) := by decide +kernel
theorem dX8_unites_3 : decode cX8_unites 3 = .ok (.imul, 1) := by decide +kernel
theorem dX8_unites_4 : decode cX8_unites 4 = .ok (.istore_n 3, 1) := by decide +kernel
theorem dX8_unites_5 : decode cX8_unites 5 = .ok (.bipush 8, 2) := by decide +kernel
theorem dX8_unites_7 : decode cX8_unites 7 = .ok (.iload_n 2, 1) := by decide +kernel
theorem dX8_unites_8 : decode cX8_unites 8 = .ok (.imul, 1) := by decide +kernel
theorem dX8_unites_9 : decode cX8_unites 9 = .ok (.istore 4, 2) := by decide +kernel
theorem dX8_unites_11 : decode cX8_unites 11 = .ok (.aload_n 0, 1) := by decide +kernel
theorem dX8_unites_12 : decode cX8_unites 12 = .ok (.getfield 38, 3) := by decide +kernel
theorem dX8_unites_15 : decode cX8_unites 15 = .ok (.iload_n 3, 1) := by decide +kernel
theorem dX8_unites_16 : decode cX8_unites 16 = .ok (.bipush 6, 2) := by decide +kernel
theorem dX8_unites_18 : decode cX8_unites 18 = .ok (.iadd, 1) := by decide +kernel
theorem dX8_unites_19 : decode cX8_unites 19 = .ok (.iaload, 1) := by decide +kernel
theorem dX8_unites_20 : decode cX8_unites 20 = .ok (.ifCond .le 51, 3) := by decide +kernel
theorem dX8_unites_23 : decode cX8_unites 23 = .ok (.aload_n 0, 1) := by decide +kernel
theorem dX8_unites_24 : decode cX8_unites 24 = .ok (.getfield 38, 3) := by decide +kernel
theorem dX8_unites_27 : decode cX8_unites 27 = .ok (.iload_n 3, 1) := by decide +kernel
theorem dX8_unites_28 : decode cX8_unites 28 = .ok (.bipush 6, 2) := by decide +kernel
theorem dX8_unites_30 : decode cX8_unites 30 = .ok (.iadd, 1) := by decide +kernel
theorem dX8_unites_31 : decode cX8_unites 31 = .ok (.iaload, 1) := by decide +kernel
theorem dX8_unites_32 : decode cX8_unites 32 = .ok (.aload_n 0, 1) := by decide +kernel
theorem dX8_unites_33 : decode cX8_unites 33 = .ok (.getfield 38, 3) := by decide +kernel
theorem dX8_unites_36 : decode cX8_unites 36 = .ok (.iload 4, 2) := by decide +kernel
theorem dX8_unites_38 : decode cX8_unites 38 = .ok (.bipush 6, 2) := by decide +kernel
theorem dX8_unites_40 : decode cX8_unites 40 = .ok (.iadd, 1) := by decide +kernel
theorem dX8_unites_41 : decode cX8_unites 41 = .ok (.iaload, 1) := by decide +kernel
theorem dX8_unites_42 : decode cX8_unites 42 = .ok (.if_icmp .ne 29, 3) := by decide +kernel
theorem dX8_unites_45 : decode cX8_unites 45 = .ok (.aload_n 0, 1) := by decide +kernel
theorem dX8_unites_46 : decode cX8_unites 46 = .ok (.getfield 38, 3) := by decide +kernel
theorem dX8_unites_49 : decode cX8_unites 49 = .ok (.iload_n 3, 1) := by decide +kernel
theorem dX8_unites_50 : decode cX8_unites 50 = .ok (.bipush 7, 2) := by decide +kernel
theorem dX8_unites_52 : decode cX8_unites 52 = .ok (.iadd, 1) := by decide +kernel
theorem dX8_unites_53 : decode cX8_unites 53 = .ok (.iaload, 1) := by decide +kernel
theorem dX8_unites_54 : decode cX8_unites 54 = .ok (.aload_n 0, 1) := by decide +kernel
theorem dX8_unites_55 : decode cX8_unites 55 = .ok (.getfield 38, 3) := by decide +kernel
theorem dX8_unites_58 : decode cX8_unites 58 = .ok (.iload 4, 2) := by decide +kernel
theorem dX8_unites_60 : decode cX8_unites 60 = .ok (.bipush 7, 2) := by decide +kernel
theorem dX8_unites_62 : decode cX8_unites 62 = .ok (.iadd, 1) := by decide +kernel
theorem dX8_unites_63 : decode cX8_unites 63 = .ok (.iaload, 1) := by decide +kernel
theorem dX8_unites_64 : decode cX8_unites 64 = .ok (.if_icmp .ne 7, 3) := by decide +kernel
theorem dX8_unites_67 : decode cX8_unites 67 = .ok (.iconst 1, 1) := by decide +kernel
theorem dX8_unites_68 : decode cX8_unites 68 = .ok (.goto 4, 3) := by decide +kernel
theorem dX8_unites_71 : decode cX8_unites 71 = .ok (.iconst 0, 1) := by decide +kernel
theorem dX8_unites_72 : decode cX8_unites 72 = .ok (.istore 5, 2) := by decide +kernel
theorem dX8_unites_74 : decode cX8_unites 74 = .ok (.aload_n 0, 1) := by decide +kernel
theorem dX8_unites_75 : decode cX8_unites 75 = .ok (.getfield 38, 3) := by decide +kernel
theorem dX8_unites_78 : decode cX8_unites 78 = .ok (.iload_n 3, 1) := by decide +kernel
theorem dX8_unites_79 : decode cX8_unites 79 = .ok (.iconst 2, 1) := by decide +kernel
theorem dX8_unites_80 : decode cX8_unites 80 = .ok (.iadd, 1) := by decide +kernel
theorem dX8_unites_81 : decode cX8_unites 81 = .ok (.aload_n 0, 1) := by decide +kernel
theorem dX8_unites_82 : decode cX8_unites 82 = .ok (.getfield 38, 3) := by decide +kernel
theorem dX8_unites_85 : decode cX8_unites 85 = .ok (.iload 4, 2) := by decide +kernel
theorem dX8_unites_87 : decode cX8_unites 87 = .ok (.iconst 2, 1) := by decide +kernel
theorem dX8_unites_88 : decode cX8_unites 88 = .ok (.iadd, 1) := by decide +kernel
theorem dX8_unites_89 : decode cX8_unites 89 = .ok (.iaload, 1) := by decide +kernel
theorem dX8_unites_90 : decode cX8_unites 90 = .ok (.iastore, 1) := by decide +kernel
theorem dX8_unites_91 : decode cX8_unites 91 = .ok (.aload_n 0, 1) := by decide +kernel
theorem dX8_unites_92 : decode cX8_unites 92 = .ok (.getfield 38, 3) := by decide +kernel
theorem dX8_unites_95 : decode cX8_unites 95 = .ok (.iload_n 3, 1) := by decide +kernel
theorem dX8_unites_96 : decode cX8_unites 96 = .ok (.iconst 2, 1) := by decide +kernel
theorem dX8_unites_97 : decode cX8_unites 97 = .ok (.iadd, 1) := by decide +kernel
theorem dX8_unites_98 : decode cX8_unites 98 = .ok (.iconst 1, 1) := by decide +kernel
theorem dX8_unites_99 : decode cX8_unites 99 = .ok (.iadd, 1) := by decide +kernel
theorem dX8_unites_100 : decode cX8_unites 100 = .ok (.aload_n 0, 1) := by decide +kernel
theorem dX8_unites_101 : decode cX8_unites 101 = .ok (.getfield 38, 3) := by decide +kernel
theorem dX8_unites_104 : decode cX8_unites 104 = .ok (.iload 4, 2) := by decide +kernel
theorem dX8_unites_106 : decode cX8_unites 106 = .ok (.iconst 2, 1) := by decide +kernel
theorem dX8_unites_107 : decode cX8_unites 107 = .ok (.iadd, 1) := by decide +kernel
theorem dX8_unites_108 : decode cX8_unites 108 = .ok (.iconst 1, 1) := by decide +kernel
theorem dX8_unites_109 : decode cX8_unites 109 = .ok (.iadd, 1) := by decide +kernel
theorem dX8_unites_110 : decode cX8_unites 110 = .ok (.iaload, 1) := by decide +kernel
theorem dX8_unites_111 : decode cX8_unites 111 = .ok (.iastore, 1) := by decide +kernel
theorem dX8_unites_112 : decode cX8_unites 112 = .ok (.iconst 0, 1) := by decide +kernel
theorem dX8_unites_113 : decode cX8_unites 113 = .ok (.istore 6, 2) := by decide +kernel
theorem dX8_unites_115 : decode cX8_unites 115 = .ok (.iload 6, 2) := by decide +kernel
theorem dX8_unites_117 : decode cX8_unites 117 = .ok (.iconst 2, 1) := by decide +kernel
theorem dX8_unites_118 : decode cX8_unites 118 = .ok (.if_icmp .ge 72, 3) := by decide +kernel
theorem dX8_unites_121 : decode cX8_unites 121 = .ok (.iload 5, 2) := by decide +kernel
theorem dX8_unites_123 : decode cX8_unites 123 = .ok (.ifCond .eq 58, 3) := by decide +kernel
theorem dX8_unites_126 : decode cX8_unites 126 = .ok (.aload_n 0, 1) := by decide +kernel
theorem dX8_unites_127 : decode cX8_unites 127 = .ok (.getfield 38, 3) := by decide +kernel
theorem dX8_unites_130 : decode cX8_unites 130 = .ok (.iload_n 3, 1) := by decide +kernel
theorem dX8_unites_131 : decode cX8_unites 131 = .ok (.bipush 7, 2) := by decide +kernel
theorem dX8_unites_133 : decode cX8_unites 133 = .ok (.iadd, 1) := by decide +kernel
theorem dX8_unites_134 : decode cX8_unites 134 = .ok (.iaload, 1) := by decide +kernel
theorem dX8_unites_135 : decode cX8_unites 135 = .ok (.i2l, 1) := by decide +kernel
theorem dX8_unites_136 : decode cX8_unites 136 = .ok (.aload_n 0, 1) := by decide +kernel
theorem dX8_unites_137 : decode cX8_unites 137 = .ok (.getfield 38, 3) := by decide +kernel
theorem dX8_unites_140 : decode cX8_unites 140 = .ok (.iload_n 3, 1) := by decide +kernel
theorem dX8_unites_141 : decode cX8_unites 141 = .ok (.iconst 2, 1) := by decide +kernel
theorem dX8_unites_142 : decode cX8_unites 142 = .ok (.iadd, 1) := by decide +kernel
theorem dX8_unites_143 : decode cX8_unites 143 = .ok (.iload 6, 2) := by decide +kernel
theorem dX8_unites_145 : decode cX8_unites 145 = .ok (.iadd, 1) := by decide +kernel
theorem dX8_unites_146 : decode cX8_unites 146 = .ok (.iaload, 1) := by decide +kernel
theorem dX8_unites_147 : decode cX8_unites 147 = .ok (.i2l, 1) := by decide +kernel
theorem dX8_unites_148 : decode cX8_unites 148 = .ok (.lmul, 1) := by decide +kernel
theorem dX8_unites_149 : decode cX8_unites 149 = .ok (.aload_n 0, 1) := by decide +kernel
theorem dX8_unites_150 : decode cX8_unites 150 = .ok (.getfield 38, 3) := by decide +kernel
theorem dX8_unites_153 : decode cX8_unites 153 = .ok (.iload_n 3, 1) := by decide +kernel
theorem dX8_unites_154 : decode cX8_unites 154 = .ok (.bipush 6, 2) := by decide +kernel
theorem dX8_unites_156 : decode cX8_unites 156 = .ok (.iadd, 1) := by decide +kernel
theorem dX8_unites_157 : decode cX8_unites 157 = .ok (.iaload, 1) := by decide +kernel
theorem dX8_unites_158 : decode cX8_unites 158 = .ok (.i2l, 1) := by decide +kernel
theorem dX8_unites_159 : decode cX8_unites 159 = .ok (.lneg, 1) := by decide +kernel
theorem dX8_unites_160 : decode cX8_unites 160 = .ok (.aload_n 0, 1) := by decide +kernel
theorem dX8_unites_161 : decode cX8_unites 161 = .ok (.getfield 38, 3) := by decide +kernel
theorem dX8_unites_164 : decode cX8_unites 164 = .ok (.iload_n 3, 1) := by decide +kernel
theorem dX8_unites_165 : decode cX8_unites 165 = .ok (.iconst 4, 1) := by decide +kernel
theorem dX8_unites_166 : decode cX8_unites 166 = .ok (.iadd, 1) := by decide +kernel
theorem dX8_unites_167 : decode cX8_unites 167 = .ok (.iload 6, 2) := by decide +kernel
theorem dX8_unites_169 : decode cX8_unites 169 = .ok (.iadd, 1) := by decide +kernel
theorem dX8_unites_170 : decode cX8_unites 170 = .ok (.iaload, 1) := by decide +kernel
theorem dX8_unites_171 : decode cX8_unites 171 = .ok (.i2l, 1) := by decide +kernel
theorem dX8_unites_172 : decode cX8_unites 172 = .ok (.lmul, 1) := by decide +kernel
theorem dX8_unites_173 : decode cX8_unites 173 = .ok (.lcmp, 1) := by decide +kernel
theorem dX8_unites_174 : decode cX8_unites 174 = .ok (.ifCond .ne 7, 3) := by decide +kernel
theorem dX8_unites_177 : decode cX8_unites 177 = .ok (.iconst 1, 1) := by decide +kernel
theorem dX8_unites_178 : decode cX8_unites 178 = .ok (.goto 4, 3) := by decide +kernel
theorem dX8_unites_181 : decode cX8_unites 181 = .ok (.iconst 0, 1) := by decide +kernel
theorem dX8_unites_182 : decode cX8_unites 182 = .ok (.istore 5, 2) := by decide +kernel
theorem dX8_unites_184 : decode cX8_unites 184 = .ok (.iinc 6 1, 3) := by decide +kernel
theorem dX8_unites_187 : decode cX8_unites 187 = .ok (.goto (-72), 3) := by decide +kernel
theorem dX8_unites_190 : decode cX8_unites 190 = .ok (.aload_n 0, 1) := by decide +kernel
theorem dX8_unites_191 : decode cX8_unites 191 = .ok (.getfield 38, 3) := by decide +kernel
theorem dX8_unites_194 : decode cX8_unites 194 = .ok (.iload_n 3, 1) := by decide +kernel
theorem dX8_unites_195 : decode cX8_unites 195 = .ok (.bipush 6, 2) := by decide +kernel
theorem dX8_unites_197 : decode cX8_unites 197 = .ok (.iadd, 1) := by decide +kernel
theorem dX8_unites_198 : decode cX8_unites 198 = .ok (.iload 5, 2) := by decide +kernel
theorem dX8_unites_200 : decode cX8_unites 200 = .ok (.ifCond .eq 15, 3) := by decide +kernel
theorem dX8_unites_203 : decode cX8_unites 203 = .ok (.aload_n 0, 1) := by decide +kernel
theorem dX8_unites_204 : decode cX8_unites 204 = .ok (.getfield 38, 3) := by decide +kernel
theorem dX8_unites_207 : decode cX8_unites 207 = .ok (.iload_n 3, 1) := by decide +kernel
theorem dX8_unites_208 : decode cX8_unites 208 = .ok (.bipush 6, 2) := by decide +kernel
theorem dX8_unites_210 : decode cX8_unites 210 = .ok (.iadd, 1) := by decide +kernel
theorem dX8_unites_211 : decode cX8_unites 211 = .ok (.iaload, 1) := by decide +kernel
theorem dX8_unites_212 : decode cX8_unites 212 = .ok (.goto 4, 3) := by decide +kernel
theorem dX8_unites_215 : decode cX8_unites 215 = .ok (.iconst 0, 1) := by decide +kernel
theorem dX8_unites_216 : decode cX8_unites 216 = .ok (.iastore, 1) := by decide +kernel
theorem dX8_unites_217 : decode cX8_unites 217 = .ok (.aload_n 0, 1) := by decide +kernel
theorem dX8_unites_218 : decode cX8_unites 218 = .ok (.getfield 38, 3) := by decide +kernel
theorem dX8_unites_221 : decode cX8_unites 221 = .ok (.iload_n 3, 1) := by decide +kernel
theorem dX8_unites_222 : decode cX8_unites 222 = .ok (.bipush 7, 2) := by decide +kernel
theorem dX8_unites_224 : decode cX8_unites 224 = .ok (.iadd, 1) := by decide +kernel
theorem dX8_unites_225 : decode cX8_unites 225 = .ok (.iload 5, 2) := by decide +kernel
theorem dX8_unites_227 : decode cX8_unites 227 = .ok (.ifCond .eq 15, 3) := by decide +kernel
theorem dX8_unites_230 : decode cX8_unites 230 = .ok (.aload_n 0, 1) := by decide +kernel
theorem dX8_unites_231 : decode cX8_unites 231 = .ok (.getfield 38, 3) := by decide +kernel
theorem dX8_unites_234 : decode cX8_unites 234 = .ok (.iload_n 3, 1) := by decide +kernel
theorem dX8_unites_235 : decode cX8_unites 235 = .ok (.bipush 7, 2) := by decide +kernel
theorem dX8_unites_237 : decode cX8_unites 237 = .ok (.iadd, 1) := by decide +kernel
theorem dX8_unites_238 : decode cX8_unites 238 = .ok (.iaload, 1) := by decide +kernel
theorem dX8_unites_239 : decode cX8_unites 239 = .ok (.goto 4, 3) := by decide +kernel
theorem dX8_unites_242 : decode cX8_unites 242 = .ok (.iconst 0, 1) := by decide +kernel
theorem dX8_unites_243 : decode cX8_unites 243 = .ok (.iastore, 1) := by decide +kernel
theorem dX8_unites_244 : decode cX8_unites 244 = .ok (.return_, 1) := by decide +kernel
theorem dX8_join_0 : decode cX8_join 0 = .ok (.aload_n 0, 1) := by decide +kernel
theorem dX8_join_1 : decode cX8_join 1 = .ok (.iload_n 1, 1) := by decide +kernel
theorem dX8_join_2 : decode cX8_join 2 = .ok (.invokevirtual 55, 3) := by decide +kernel
theorem dX8_join_5 : decode cX8_join 5 = .ok (.ifCond .eq 11, 3) := by decide +kernel
theorem dX8_join_8 : decode cX8_join 8 = .ok (.aload_n 0, 1) := by decide +kernel
theorem dX8_join_9 : decode cX8_join 9 = .ok (.iload_n 2, 1) := by decide +kernel
theorem dX8_join_10 : decode cX8_join 10 = .ok (.invokevirtual 55, 3) := by decide +kernel
theorem dX8_join_13 : decode cX8_join 13 = .ok (.ifCond .ne 6, 3) := by decide +kernel
theorem dX8_join_16 : decode cX8_join 16 = .ok (.ldc 121, 2) := by decide +kernel
theorem dX8_join_18 : decode cX8_join 18 = .ok (.ireturn, 1) := by decide +kernel
theorem dX8_join_19 : decode cX8_join 19 = .ok (.aload_n 0, 1) := by decide +kernel
theorem dX8_join_20 : decode cX8_join 20 = .ok (.iload_n 1, 1) := by decide +kernel
theorem dX8_join_21 : decode cX8_join 21 = .ok (.iload_n 2, 1) := by decide +kernel
theorem dX8_join_22 : decode cX8_join 22 = .ok (.invokevirtual 172, 3) := by decide +kernel
theorem dX8_join_25 : decode cX8_join 25 = .ok (.istore_n 3, 1) := by decide +kernel
theorem dX8_join_26 : decode cX8_join 26 = .ok (.aload_n 0, 1) := by decide +kernel
theorem dX8_join_27 : decode cX8_join 27 = .ok (.iload_n 1, 1) := by decide +kernel
theorem dX8_join_28 : decode cX8_join 28 = .ok (.invokevirtual 59, 3) := by decide +kernel
theorem dX8_join_31 : decode cX8_join 31 = .ok (.istore 4, 2) := by decide +kernel
theorem dX8_join_33 : decode cX8_join 33 = .ok (.iload_n 1, 1) := by decide +kernel
theorem dX8_join_34 : decode cX8_join 34 = .ok (.iload_n 2, 1) := by decide +kernel
theorem dX8_join_35 : decode cX8_join 35 = .ok (.if_icmp .ne 8, 3) := by decide +kernel
theorem dX8_join_38 : decode cX8_join 38 = .ok (.iload 4, 2) := by decide +kernel
theorem dX8_join_40 : decode cX8_join 40 = .ok (.goto 11, 3) := by decide +kernel
theorem dX8_join_43 : decode cX8_join 43 = .ok (.iload 4, 2) := by decide +kernel
theorem dX8_join_45 : decode cX8_join 45 = .ok (.aload_n 0, 1) := by decide +kernel
theorem dX8_join_46 : decode cX8_join 46 = .ok (.iload_n 2, 1) := by decide +kernel
theorem dX8_join_47 : decode cX8_join 47 = .ok (.invokevirtual 59, 3) := by decide +kernel
theorem dX8_join_50 : decode cX8_join 50 = .ok (.iadd, 1) := by decide +kernel
theorem dX8_join_51 : decode cX8_join 51 = .ok (.iload_n 3, 1) := by decide +kernel
theorem dX8_join_52 : decode cX8_join 52 = .ok (.ifCond .eq 7, 3) := by decide +kernel
theorem dX8_join_55 : decode cX8_join 55 = .ok (.iconst 1, 1) := by decide +kernel
theorem dX8_join_56 : decode cX8_join 56 = .ok (.goto 4, 3) := by decide +kernel
theorem dX8_join_59 : decode cX8_join 59 = .ok (.iconst 0, 1) := by decide +kernel
theorem dX8_join_60 : decode cX8_join 60 = .ok (.isub, 1) := by decide +kernel
theorem dX8_join_61 : decode cX8_join 61 = .ok (.istore 5, 2) := by decide +kernel
theorem dX8_join_63 : decode cX8_join 63 = .ok (.aload_n 0, 1) := by decide +kernel
theorem dX8_join_64 : decode cX8_join 64 = .ok (.iload_n 1, 1) := by decide +kernel
theorem dX8_join_65 : decode cX8_join 65 = .ok (.invokevirtual 62, 3) := by decide +kernel
theorem dX8_join_68 : decode cX8_join 68 = .ok (.ifCond .ne 22, 3) := by decide +kernel
theorem dX8_join_71 : decode cX8_join 71 = .ok (.aload_n 0, 1) := by decide +kernel
theorem dX8_join_72 : decode cX8_join 72 = .ok (.iload_n 2, 1) := by decide +kernel
theorem dX8_join_73 : decode cX8_join 73 = .ok (.invokevirtual 62, 3) := by decide +kernel
theorem dX8_join_76 : decode cX8_join 76 = .ok (.ifCond .ne 14, 3) := by decide +kernel
theorem dX8_join_79 : decode cX8_join 79 = .ok (.iload_n 1, 1) := by decide +kernel
theorem dX8_join_80 : decode cX8_join 80 = .ok (.iload_n 2, 1) := by decide +kernel
theorem dX8_join_81 : decode cX8_join 81 = .ok (.if_icmp .ne 12, 3) := by decide +kernel
theorem dX8_join_84 : decode cX8_join 84 = .ok (.iload 5, 2) := by decide +kernel
theorem dX8_join_86 : decode cX8_join 86 = .ok (.iconst 2, 1) := by decide +kernel
theorem dX8_join_87 : decode cX8_join 87 = .ok (.if_icmp .ge 6, 3) := by decide +kernel
theorem dX8_join_90 : decode cX8_join 90 = .ok (.ldc 122, 2) := by decide +kernel
theorem dX8_join_92 : decode cX8_join 92 = .ok (.ireturn, 1) := by decide +kernel
theorem dX8_join_93 : decode cX8_join 93 = .ok (.iload 5, 2) := by decide +kernel
theorem dX8_join_95 : decode cX8_join 95 = .ok (.bipush 12, 2) := by decide +kernel
theorem dX8_join_97 : decode cX8_join 97 = .ok (.if_icmp .le 6, 3) := by decide +kernel
theorem dX8_join_100 : decode cX8_join 100 = .ok (.ldc 109, 2) := by decide +kernel
theorem dX8_join_102 : decode cX8_join 102 = .ok (.ireturn, 1) := by decide +kernel
theorem dX8_join_103 : decode cX8_join 103 = .ok (.aload_n 0, 1) := by decide +kernel
theorem dX8_join_104 : decode cX8_join 104 = .ok (.invokevirtual 110, 3) := by decide +kernel
theorem dX8_join_107 : decode cX8_join 107 = .ok (.iload_n 1, 1) := by decide +kernel
theorem dX8_join_108 : decode cX8_join 108 = .ok (.iload_n 2, 1) := by decide +kernel
theorem dX8_join_109 : decode cX8_join 109 = .ok (.if_icmp .ne 51, 3) := by decide +kernel
theorem dX8_join_112 : decode cX8_join 112 = .ok (.aload_n 0, 1) := by decide +kernel
theorem dX8_join_113 : decode cX8_join 113 = .ok (.iload_n 1, 1) := by decide +kernel
theorem dX8_join_114 : decode cX8_join 114 = .ok (.iconst 0, 1) := by decide +kernel
theorem dX8_join_115 : decode cX8_join 115 = .ok (.iload 4, 2) := by decide +kernel
theorem dX8_join_117 : decode cX8_join 117 = .ok (.iconst 0, 1) := by decide +kernel
theorem dX8_join_118 : decode cX8_join 118 = .ok (.invokevirtual 166, 3) := by decide +kernel
theorem dX8_join_121 : decode cX8_join 121 = .ok (.iload_n 3, 1) := by decide +kernel
theorem dX8_join_122 : decode cX8_join 122 = .ok (.ifCond .eq 12, 3) := by decide +kernel
theorem dX8_join_125 : decode cX8_join 125 = .ok (.aload_n 0, 1) := by decide +kernel
theorem dX8_join_126 : decode cX8_join 126 = .ok (.iconst 0, 1) := by decide +kernel
theorem dX8_join_127 : decode cX8_join 127 = .ok (.iload 4, 2) := by decide +kernel
theorem dX8_join_129 : decode cX8_join 129 = .ok (.iconst 1, 1) := by decide +kernel
theorem dX8_join_130 : decode cX8_join 130 = .ok (.isub, 1) := by decide +kernel
theorem dX8_join_131 : decode cX8_join 131 = .ok (.invokevirtual 175, 3) := by decide +kernel
theorem dX8_join_134 : decode cX8_join 134 = .ok (.aload_n 0, 1) := by decide +kernel
theorem dX8_join_135 : decode cX8_join 135 = .ok (.iload_n 1, 1) := by decide +kernel
theorem dX8_join_136 : decode cX8_join 136 = .ok (.iload 5, 2) := by decide +kernel
theorem dX8_join_138 : decode cX8_join 138 = .ok (.invokevirtual 169, 3) := by decide +kernel
theorem dX8_join_141 : decode cX8_join 141 = .ok (.aload_n 0, 1) := by decide +kernel
theorem dX8_join_142 : decode cX8_join 142 = .ok (.getfield 7, 3) := by decide +kernel
theorem dX8_join_145 : decode cX8_join 145 = .ok (.iload_n 1, 1) := by decide +kernel
theorem dX8_join_146 : decode cX8_join 146 = .ok (.invokestatic 51, 3) := by decide +kernel
theorem dX8_join_149 : decode cX8_join 149 = .ok (.iconst 1, 1) := by decide +kernel
theorem dX8_join_150 : decode cX8_join 150 = .ok (.iadd, 1) := by decide +kernel
theorem dX8_join_151 : decode cX8_join 151 = .ok (.iconst 1, 1) := by decide +kernel
theorem dX8_join_152 : decode cX8_join 152 = .ok (.iastore, 1) := by decide +kernel
theorem dX8_join_153 : decode cX8_join 153 = .ok (.aload_n 0, 1) := by decide +kernel
theorem dX8_join_154 : decode cX8_join 154 = .ok (.iload 5, 2) := by decide +kernel
theorem dX8_join_156 : decode cX8_join 156 = .ok (.invokevirtual 118, 3) := by decide +kernel
theorem dX8_join_159 : decode cX8_join 159 = .ok (.ireturn, 1) := by decide +kernel
theorem dX8_join_160 : decode cX8_join 160 = .ok (.aload_n 0, 1) := by decide +kernel
theorem dX8_join_161 : decode cX8_join 161 = .ok (.iload_n 1, 1) := by decide +kernel
theorem dX8_join_162 : decode cX8_join 162 = .ok (.iconst 0, 1) := by decide +kernel
theorem dX8_join_163 : decode cX8_join 163 = .ok (.iload 4, 2) := by decide +kernel
theorem dX8_join_165 : decode cX8_join 165 = .ok (.iconst 0, 1) := by decide +kernel
theorem dX8_join_166 : decode cX8_join 166 = .ok (.invokevirtual 166, 3) := by decide +kernel
theorem dX8_join_169 : decode cX8_join 169 = .ok (.aload_n 0, 1) := by decide +kernel
theorem dX8_join_170 : decode cX8_join 170 = .ok (.iload_n 2, 1) := by decide +kernel
theorem dX8_join_171 : decode cX8_join 171 = .ok (.iconst 0, 1) := by decide +kernel
theorem dX8_join_172 : decode cX8_join 172 = .ok (.aload_n 0, 1) := by decide +kernel
theorem dX8_join_173 : decode cX8_join 173 = .ok (.iload_n 2, 1) := by decide +kernel
theorem dX8_join_174 : decode cX8_join 174 = .ok (.invokevirtual 59, 3) := by decide +kernel
theorem dX8_join_177 : decode cX8_join 177 = .ok (.iload 4, 2) := by decide +kernel
theorem dX8_join_179 : decode cX8_join 179 = .ok (.invokevirtual 166, 3) := by decide +kernel
theorem dX8_join_182 : decode cX8_join 182 = .ok (.iload_n 3, 1) := by decide +kernel
theorem dX8_join_183 : decode cX8_join 183 = .ok (.ifCond .eq 55, 3) := by decide +kernel
theorem dX8_join_186 : decode cX8_join 186 = .ok (.aload_n 0, 1) := by decide +kernel
theorem dX8_join_187 : decode cX8_join 187 = .ok (.iload 4, 2) := by decide +kernel
theorem dX8_join_189 : decode cX8_join 189 = .ok (.iload 4, 2) := by decide +kernel
theorem dX8_join_191 : decode cX8_join 191 = .ok (.iconst 1, 1) := by decide +kernel
theorem dX8_join_192 : decode cX8_join 192 = .ok (.isub, 1) := by decide +kernel
theorem dX8_join_193 : decode cX8_join 193 = .ok (.invokevirtual 175, 3) := by decide +kernel
theorem dX8_join_196 : decode cX8_join 196 = .ok (.bipush 8, 2) := by decide +kernel
theorem dX8_join_198 : decode cX8_join 198 = .ok (.iload 4, 2) := by decide +kernel
theorem dX8_join_200 : decode cX8_join 200 = .ok (.iconst 1, 1) := by decide +kernel
theorem dX8_join_201 : decode cX8_join 201 = .ok (.isub, 1) := by decide +kernel
theorem dX8_join_202 : decode cX8_join 202 = .ok (.imul, 1) := by decide +kernel
theorem dX8_join_203 : decode cX8_join 203 = .ok (.istore 6, 2) := by decide +kernel
theorem dX8_join_205 : decode cX8_join 205 = .ok (.iload 6, 2) := by decide +kernel
theorem dX8_join_207 : decode cX8_join 207 = .ok (.bipush 8, 2) := by decide +kernel
theorem dX8_join_209 : decode cX8_join 209 = .ok (.iload 5, 2) := by decide +kernel
theorem dX8_join_211 : decode cX8_join 211 = .ok (.imul, 1) := by decide +kernel
theorem dX8_join_212 : decode cX8_join 212 = .ok (.if_icmp .ge 26, 3) := by decide +kernel
theorem dX8_join_215 : decode cX8_join 215 = .ok (.aload_n 0, 1) := by decide +kernel
theorem dX8_join_216 : decode cX8_join 216 = .ok (.getfield 38, 3) := by decide +kernel
theorem dX8_join_219 : decode cX8_join 219 = .ok (.iload 6, 2) := by decide +kernel
theorem dX8_join_221 : decode cX8_join 221 = .ok (.aload_n 0, 1) := by decide +kernel
theorem dX8_join_222 : decode cX8_join 222 = .ok (.getfield 38, 3) := by decide +kernel
theorem dX8_join_225 : decode cX8_join 225 = .ok (.iload 6, 2) := by decide +kernel
theorem dX8_join_227 : decode cX8_join 227 = .ok (.bipush 8, 2) := by decide +kernel
theorem dX8_join_229 : decode cX8_join 229 = .ok (.iadd, 1) := by decide +kernel
theorem dX8_join_230 : decode cX8_join 230 = .ok (.iaload, 1) := by decide +kernel
theorem dX8_join_231 : decode cX8_join 231 = .ok (.iastore, 1) := by decide +kernel
theorem dX8_join_232 : decode cX8_join 232 = .ok (.iinc 6 1, 3) := by decide +kernel
theorem dX8_join_235 : decode cX8_join 235 = .ok (.goto (-30), 3) := by decide +kernel
theorem dX8_join_238 : decode cX8_join 238 = .ok (.aload_n 0, 1) := by decide +kernel
theorem dX8_join_239 : decode cX8_join 239 = .ok (.iload_n 1, 1) := by decide +kernel
theorem dX8_join_240 : decode cX8_join 240 = .ok (.iload 5, 2) := by decide +kernel
theorem dX8_join_242 : decode cX8_join 242 = .ok (.invokevirtual 169, 3) := by decide +kernel
theorem dX8_join_245 : decode cX8_join 245 = .ok (.aload_n 0, 1) := by decide +kernel
theorem dX8_join_246 : decode cX8_join 246 = .ok (.iload_n 2, 1) := by decide +kernel
theorem dX8_join_247 : decode cX8_join 247 = .ok (.invokevirtual 123, 3) := by decide +kernel
theorem dX8_join_250 : decode cX8_join 250 = .ok (.aload_n 0, 1) := by decide +kernel
theorem dX8_join_251 : decode cX8_join 251 = .ok (.iload 5, 2) := by decide +kernel
theorem dX8_join_253 : decode cX8_join 253 = .ok (.invokevirtual 118, 3) := by decide +kernel
theorem dX8_join_256 : decode cX8_join 256 = .ok (.ireturn, 1) := by decide +kernel
theorem dX8_swaps_0 : decode cX8_swaps 0 = .ok (.aload_n 0, 1) := by decide +kernel
theorem dX8_swaps_1 : decode cX8_swaps 1 = .ok (.getfield 7, 3) := by decide +kernel
theorem dX8_swaps_4 : decode cX8_swaps 4 = .ok (.iload_n 1, 1) := by decide +kernel
theorem dX8_swaps_5 : decode cX8_swaps 5 = .ok (.iaload, 1) := by decide +kernel
theorem dX8_swaps_6 : decode cX8_swaps 6 = .ok (.istore_n 3, 1) := by decide +kernel
theorem dX8_swaps_7 : decode cX8_swaps 7 = .ok (.aload_n 0, 1) := by decide +kernel
theorem dX8_swaps_8 : decode cX8_swaps 8 = .ok (.getfield 7, 3) := by decide +kernel
theorem dX8_swaps_11 : decode cX8_swaps 11 = .ok (.iload_n 1, 1) := by decide +kernel
theorem dX8_swaps_12 : decode cX8_swaps 12 = .ok (.aload_n 0, 1) := by decide +kernel
theorem dX8_swaps_13 : decode cX8_swaps 13 = .ok (.getfield 7, 3) := by decide +kernel
theorem dX8_swaps_16 : decode cX8_swaps 16 = .ok (.iload_n 2, 1) := by decide +kernel
theorem dX8_swaps_17 : decode cX8_swaps 17 = .ok (.iaload, 1) := by decide +kernel
theorem dX8_swaps_18 : decode cX8_swaps 18 = .ok (.iastore, 1) := by decide +kernel
theorem dX8_swaps_19 : decode cX8_swaps 19 = .ok (.aload_n 0, 1) := by decide +kernel
theorem dX8_swaps_20 : decode cX8_swaps 20 = .ok (.getfield 7, 3) := by decide +kernel
theorem dX8_swaps_23 : decode cX8_swaps 23 = .ok (.iload_n 2, 1) := by decide +kernel
theorem dX8_swaps_24 : decode cX8_swaps 24 = .ok (.iload_n 3, 1) := by decide +kernel
theorem dX8_swaps_25 : decode cX8_swaps 25 = .ok (.iastore, 1) := by decide +kernel
theorem dX8_swaps_26 : decode cX8_swaps 26 = .ok (.return_, 1) := by decide +kernel
theorem dX8_reverse_0 : decode cX8_reverse 0 = .ok (.aload_n 0, 1) := by decide +kernel
theorem dX8_reverse_1 : decode cX8_reverse 1 = .ok (.iload_n 1, 1) := by decide +kernel
theorem dX8_reverse_2 : decode cX8_reverse 2 = .ok (.invokevirtual 55, 3) := by decide +kernel
theorem dX8_reverse_5 : decode cX8_reverse 5 = .ok (.ifCond .ne 6, 3) := by decide +kernel
theorem dX8_reverse_8 : decode cX8_reverse 8 = .ok (.ldc 121, 2) := by decide +kernel
theorem dX8_reverse_10 : decode cX8_reverse 10 = .ok (.ireturn, 1) := by decide +kernel
theorem dX8_reverse_11 : decode cX8_reverse 11 = .ok (.aload_n 0, 1) := by decide +kernel
theorem dX8_reverse_12 : decode cX8_reverse 12 = .ok (.invokevirtual 110, 3) := by decide +kernel
theorem dX8_reverse_15 : decode cX8_reverse 15 = .ok (.aload_n 0, 1) := by decide +kernel
theorem dX8_reverse_16 : decode cX8_reverse 16 = .ok (.iload_n 1, 1) := by decide +kernel
theorem dX8_reverse_17 : decode cX8_reverse 17 = .ok (.invokevirtual 59, 3) := by decide +kernel
theorem dX8_reverse_20 : decode cX8_reverse 20 = .ok (.istore_n 2, 1) := by decide +kernel
theorem dX8_reverse_21 : decode cX8_reverse 21 = .ok (.iconst 0, 1) := by decide +kernel
theorem dX8_reverse_22 : decode cX8_reverse 22 = .ok (.istore_n 3, 1) := by decide +kernel
theorem dX8_reverse_23 : decode cX8_reverse 23 = .ok (.iload_n 3, 1) := by decide +kernel
theorem dX8_reverse_24 : decode cX8_reverse 24 = .ok (.iload_n 2, 1) := by decide +kernel
theorem dX8_reverse_25 : decode cX8_reverse 25 = .ok (.iconst 2, 1) := by decide +kernel
theorem dX8_reverse_26 : decode cX8_reverse 26 = .ok (.idiv, 1) := by decide +kernel
theorem dX8_reverse_27 : decode cX8_reverse 27 = .ok (.if_icmp .ge 47, 3) := by decide +kernel
theorem dX8_reverse_30 : decode cX8_reverse 30 = .ok (.iconst 0, 1) := by decide +kernel
theorem dX8_reverse_31 : decode cX8_reverse 31 = .ok (.istore 4, 2) := by decide +kernel
theorem dX8_reverse_33 : decode cX8_reverse 33 = .ok (.iload 4, 2) := by decide +kernel
theorem dX8_reverse_35 : decode cX8_reverse 35 = .ok (.bipush 8, 2) := by decide +kernel
theorem dX8_reverse_37 : decode cX8_reverse 37 = .ok (.if_icmp .ge 31, 3) := by decide +kernel
theorem dX8_reverse_40 : decode cX8_reverse 40 = .ok (.aload_n 0, 1) := by decide +kernel
theorem dX8_reverse_41 : decode cX8_reverse 41 = .ok (.iload_n 1, 1) := by decide +kernel
theorem dX8_reverse_42 : decode cX8_reverse 42 = .ok (.iload_n 3, 1) := by decide +kernel
theorem dX8_reverse_43 : decode cX8_reverse 43 = .ok (.iload 4, 2) := by decide +kernel
theorem dX8_reverse_45 : decode cX8_reverse 45 = .ok (.invokestatic 92, 3) := by decide +kernel
theorem dX8_reverse_48 : decode cX8_reverse 48 = .ok (.iload_n 1, 1) := by decide +kernel
theorem dX8_reverse_49 : decode cX8_reverse 49 = .ok (.iload_n 2, 1) := by decide +kernel
theorem dX8_reverse_50 : decode cX8_reverse 50 = .ok (.iconst 1, 1) := by decide +kernel
theorem dX8_reverse_51 : decode cX8_reverse 51 = .ok (.isub, 1) := by decide +kernel
theorem dX8_reverse_52 : decode cX8_reverse 52 = .ok (.iload_n 3, 1) := by decide +kernel
theorem dX8_reverse_53 : decode cX8_reverse 53 = .ok (.isub, 1) := by decide +kernel
theorem dX8_reverse_54 : decode cX8_reverse 54 = .ok (.iload 4, 2) := by decide +kernel
theorem dX8_reverse_56 : decode cX8_reverse 56 = .ok (.invokestatic 92, 3) := by decide +kernel
theorem dX8_reverse_59 : decode cX8_reverse 59 = .ok (.invokevirtual 178, 3) := by decide +kernel
theorem dX8_reverse_62 : decode cX8_reverse 62 = .ok (.iinc 4 1, 3) := by decide +kernel
theorem dX8_reverse_65 : decode cX8_reverse 65 = .ok (.goto (-32), 3) := by decide +kernel
theorem dX8_reverse_68 : decode cX8_reverse 68 = .ok (.iinc 3 1, 3) := by decide +kernel
theorem dX8_reverse_71 : decode cX8_reverse 71 = .ok (.goto (-48), 3) := by decide +kernel
theorem dX8_reverse_74 : decode cX8_reverse 74 = .ok (.iconst 0, 1) := by decide +kernel
theorem dX8_reverse_75 : decode cX8_reverse 75 = .ok (.istore_n 3, 1) := by decide +kernel
theorem dX8_reverse_76 : decode cX8_reverse 76 = .ok (.iload_n 3, 1) := by decide +kernel
theorem dX8_reverse_77 : decode cX8_reverse 77 = .ok (.iload_n 2, 1) := by decide +kernel
theorem dX8_reverse_78 : decode cX8_reverse 78 = .ok (.if_icmp .ge 59, 3) := by decide +kernel
theorem dX8_reverse_81 : decode cX8_reverse 81 = .ok (.aload_n 0, 1) := by decide +kernel
theorem dX8_reverse_82 : decode cX8_reverse 82 = .ok (.iload_n 1, 1) := by decide +kernel
theorem dX8_reverse_83 : decode cX8_reverse 83 = .ok (.iload_n 3, 1) := by decide +kernel
theorem dX8_reverse_84 : decode cX8_reverse 84 = .ok (.iconst 2, 1) := by decide +kernel
theorem dX8_reverse_85 : decode cX8_reverse 85 = .ok (.invokestatic 92, 3) := by decide +kernel
theorem dX8_reverse_88 : decode cX8_reverse 88 = .ok (.iload_n 1, 1) := by decide +kernel
theorem dX8_reverse_89 : decode cX8_reverse 89 = .ok (.iload_n 3, 1) := by decide +kernel
theorem dX8_reverse_90 : decode cX8_reverse 90 = .ok (.iconst 4, 1) := by decide +kernel
theorem dX8_reverse_91 : decode cX8_reverse 91 = .ok (.invokestatic 92, 3) := by decide +kernel
theorem dX8_reverse_94 : decode cX8_reverse 94 = .ok (.invokevirtual 178, 3) := by decide +kernel
theorem dX8_reverse_97 : decode cX8_reverse 97 = .ok (.aload_n 0, 1) := by decide +kernel
theorem dX8_reverse_98 : decode cX8_reverse 98 = .ok (.iload_n 1, 1) := by decide +kernel
theorem dX8_reverse_99 : decode cX8_reverse 99 = .ok (.iload_n 3, 1) := by decide +kernel
theorem dX8_reverse_100 : decode cX8_reverse 100 = .ok (.iconst 3, 1) := by decide +kernel
theorem dX8_reverse_101 : decode cX8_reverse 101 = .ok (.invokestatic 92, 3) := by decide +kernel
theorem dX8_reverse_104 : decode cX8_reverse 104 = .ok (.iload_n 1, 1) := by decide +kernel
theorem dX8_reverse_105 : decode cX8_reverse 105 = .ok (.iload_n 3, 1) := by decide +kernel
theorem dX8_reverse_106 : decode cX8_reverse 106 = .ok (.iconst 5, 1) := by decide +kernel
theorem dX8_reverse_107 : decode cX8_reverse 107 = .ok (.invokestatic 92, 3) := by decide +kernel
theorem dX8_reverse_110 : decode cX8_reverse 110 = .ok (.invokevirtual 178, 3) := by decide +kernel
theorem dX8_reverse_113 : decode cX8_reverse 113 = .ok (.aload_n 0, 1) := by decide +kernel
theorem dX8_reverse_114 : decode cX8_reverse 114 = .ok (.iload_n 1, 1) := by decide +kernel
theorem dX8_reverse_115 : decode cX8_reverse 115 = .ok (.iload_n 3, 1) := by decide +kernel
theorem dX8_reverse_116 : decode cX8_reverse 116 = .ok (.bipush 6, 2) := by decide +kernel
theorem dX8_reverse_118 : decode cX8_reverse 118 = .ok (.invokestatic 92, 3) := by decide +kernel
theorem dX8_reverse_121 : decode cX8_reverse 121 = .ok (.iload_n 1, 1) := by decide +kernel
theorem dX8_reverse_122 : decode cX8_reverse 122 = .ok (.iload_n 3, 1) := by decide +kernel
theorem dX8_reverse_123 : decode cX8_reverse 123 = .ok (.bipush 7, 2) := by decide +kernel
theorem dX8_reverse_125 : decode cX8_reverse 125 = .ok (.invokestatic 92, 3) := by decide +kernel
theorem dX8_reverse_128 : decode cX8_reverse 128 = .ok (.invokevirtual 178, 3) := by decide +kernel
theorem dX8_reverse_131 : decode cX8_reverse 131 = .ok (.iinc 3 1, 3) := by decide +kernel
theorem dX8_reverse_134 : decode cX8_reverse 134 = .ok (.goto (-58), 3) := by decide +kernel
theorem dX8_reverse_137 : decode cX8_reverse 137 = .ok (.aload_n 0, 1) := by decide +kernel
theorem dX8_reverse_138 : decode cX8_reverse 138 = .ok (.iload_n 2, 1) := by decide +kernel
theorem dX8_reverse_139 : decode cX8_reverse 139 = .ok (.invokevirtual 118, 3) := by decide +kernel
theorem dX8_reverse_142 : decode cX8_reverse 142 = .ok (.ireturn, 1) := by decide +kernel
theorem dX8_transforms_0 : decode cX8_transforms 0 = .ok (.aload_n 0, 1) := by decide +kernel
theorem dX8_transforms_1 : decode cX8_transforms 1 = .ok (.getfield 7, 3) := by decide +kernel
theorem dX8_transforms_4 : decode cX8_transforms 4 = .ok (.iload_n 1, 1) := by decide +kernel
theorem dX8_transforms_5 : decode cX8_transforms 5 = .ok (.iaload, 1) := by decide +kernel
theorem dX8_transforms_6 : decode cX8_transforms 6 = .ok (.istore 7, 2) := by decide +kernel
theorem dX8_transforms_8 : decode cX8_transforms 8 = .ok (.aload_n 0, 1) := by decide +kernel
theorem dX8_transforms_9 : decode cX8_transforms 9 = .ok (.getfield 7, 3) := by decide +kernel
theorem dX8_transforms_12 : decode cX8_transforms 12 = .ok (.iload_n 1, 1) := by decide +kernel
theorem dX8_transforms_13 : decode cX8_transforms 13 = .ok (.iconst 1, 1) := by decide +kernel
theorem dX8_transforms_14 : decode cX8_transforms 14 = .ok (.iadd, 1) := by decide +kernel
theorem dX8_transforms_15 : decode cX8_transforms 15 = .ok (.iaload, 1) := by decide +kernel
theorem dX8_transforms_16 : decode cX8_transforms 16 = .ok (.istore 8, 2) := by decide +kernel
theorem dX8_transforms_18 : decode cX8_transforms 18 = .ok (.aload_n 0, 1) := by decide +kernel
theorem dX8_transforms_19 : decode cX8_transforms 19 = .ok (.iload_n 1, 1) := by decide +kernel
theorem dX8_transforms_20 : decode cX8_transforms 20 = .ok (.iload_n 2, 1) := by decide +kernel
theorem dX8_transforms_21 : decode cX8_transforms 21 = .ok (.i2l, 1) := by decide +kernel
theorem dX8_transforms_22 : decode cX8_transforms 22 = .ok (.iload 7, 2) := by decide +kernel
theorem dX8_transforms_24 : decode cX8_transforms 24 = .ok (.i2l, 1) := by decide +kernel
theorem dX8_transforms_25 : decode cX8_transforms 25 = .ok (.lmul, 1) := by decide +kernel
theorem dX8_transforms_26 : decode cX8_transforms 26 = .ok (.iload_n 3, 1) := by decide +kernel
theorem dX8_transforms_27 : decode cX8_transforms 27 = .ok (.i2l, 1) := by decide +kernel
theorem dX8_transforms_28 : decode cX8_transforms 28 = .ok (.iload 8, 2) := by decide +kernel
theorem dX8_transforms_30 : decode cX8_transforms 30 = .ok (.i2l, 1) := by decide +kernel
theorem dX8_transforms_31 : decode cX8_transforms 31 = .ok (.lmul, 1) := by decide +kernel
theorem dX8_transforms_32 : decode cX8_transforms 32 = .ok (.ladd, 1) := by decide +kernel
theorem dX8_transforms_33 : decode cX8_transforms 33 = .ok (.iload 6, 2) := by decide +kernel
theorem dX8_transforms_35 : decode cX8_transforms 35 = .ok (.i2l, 1) := by decide +kernel
theorem dX8_transforms_36 : decode cX8_transforms 36 = .ok (.invokevirtual 100, 3) := by decide +kernel
theorem dX8_transforms_39 : decode cX8_transforms 39 = .ok (.aload_n 0, 1) := by decide +kernel
theorem dX8_transforms_40 : decode cX8_transforms 40 = .ok (.iload_n 1, 1) := by decide +kernel
theorem dX8_transforms_41 : decode cX8_transforms 41 = .ok (.iconst 1, 1) := by decide +kernel
theorem dX8_transforms_42 : decode cX8_transforms 42 = .ok (.iadd, 1) := by decide +kernel
theorem dX8_transforms_43 : decode cX8_transforms 43 = .ok (.iload 4, 2) := by decide +kernel
theorem dX8_transforms_45 : decode cX8_transforms 45 = .ok (.i2l, 1) := by decide +kernel
theorem dX8_transforms_46 : decode cX8_transforms 46 = .ok (.iload 7, 2) := by decide +kernel
theorem dX8_transforms_48 : decode cX8_transforms 48 = .ok (.i2l, 1) := by decide +kernel
theorem dX8_transforms_49 : decode cX8_transforms 49 = .ok (.lmul, 1) := by decide +kernel
theorem dX8_transforms_50 : decode cX8_transforms 50 = .ok (.iload 5, 2) := by decide +kernel
theorem dX8_transforms_52 : decode cX8_transforms 52 = .ok (.i2l, 1) := by decide +kernel
theorem dX8_transforms_53 : decode cX8_transforms 53 = .ok (.iload 8, 2) := by decide +kernel
theorem dX8_transforms_55 : decode cX8_transforms 55 = .ok (.i2l, 1) := by decide +kernel
theorem dX8_transforms_56 : decode cX8_transforms 56 = .ok (.lmul, 1) := by decide +kernel
theorem dX8_transforms_57 : decode cX8_transforms 57 = .ok (.ladd, 1) := by decide +kernel
theorem dX8_transforms_58 : decode cX8_transforms 58 = .ok (.iload 6, 2) := by decide +kernel
theorem dX8_transforms_60 : decode cX8_transforms 60 = .ok (.i2l, 1) := by decide +kernel
theorem dX8_transforms_61 : decode cX8_transforms 61 = .ok (.invokevirtual 100, 3) := by decide +kernel
theorem dX8_transforms_64 : decode cX8_transforms 64 = .ok (.return_, 1) := by decide +kernel
theorem dX8_transform_0 : decode cX8_transform 0 = .ok (.aload_n 0, 1) := by decide +kernel
theorem dX8_transform_1 : decode cX8_transform 1 = .ok (.iload_n 1, 1) := by decide +kernel
theorem dX8_transform_2 : decode cX8_transform 2 = .ok (.invokevirtual 55, 3) := by decide +kernel
theorem dX8_transform_5 : decode cX8_transform 5 = .ok (.ifCond .ne 6, 3) := by decide +kernel
theorem dX8_transform_8 : decode cX8_transform 8 = .ok (.ldc 121, 2) := by decide +kernel
theorem dX8_transform_10 : decode cX8_transform 10 = .ok (.ireturn, 1) := by decide +kernel
theorem dX8_transform_11 : decode cX8_transform 11 = .ok (.iload_n 2, 1) := by decide +kernel
theorem dX8_transform_12 : decode cX8_transform 12 = .ok (.bipush (-9), 2) := by decide +kernel
theorem dX8_transform_14 : decode cX8_transform 14 = .ok (.bipush 9, 2) := by decide +kernel
theorem dX8_transform_16 : decode cX8_transform 16 = .ok (.invokestatic 47, 3) := by decide +kernel
theorem dX8_transform_19 : decode cX8_transform 19 = .ok (.ifCond .eq 49, 3) := by decide +kernel
theorem dX8_transform_22 : decode cX8_transform 22 = .ok (.iload_n 3, 1) := by decide +kernel
theorem dX8_transform_23 : decode cX8_transform 23 = .ok (.bipush (-9), 2) := by decide +kernel
theorem dX8_transform_25 : decode cX8_transform 25 = .ok (.bipush 9, 2) := by decide +kernel
theorem dX8_transform_27 : decode cX8_transform 27 = .ok (.invokestatic 47, 3) := by decide +kernel
theorem dX8_transform_30 : decode cX8_transform 30 = .ok (.ifCond .eq 38, 3) := by decide +kernel
theorem dX8_transform_33 : decode cX8_transform 33 = .ok (.iload 4, 2) := by decide +kernel
theorem dX8_transform_35 : decode cX8_transform 35 = .ok (.bipush (-9), 2) := by decide +kernel
theorem dX8_transform_37 : decode cX8_transform 37 = .ok (.bipush 9, 2) := by decide +kernel
theorem dX8_transform_39 : decode cX8_transform 39 = .ok (.invokestatic 47, 3) := by decide +kernel
theorem dX8_transform_42 : decode cX8_transform 42 = .ok (.ifCond .eq 26, 3) := by decide +kernel
theorem dX8_transform_45 : decode cX8_transform 45 = .ok (.iload 5, 2) := by decide +kernel
theorem dX8_transform_47 : decode cX8_transform 47 = .ok (.bipush (-9), 2) := by decide +kernel
theorem dX8_transform_49 : decode cX8_transform 49 = .ok (.bipush 9, 2) := by decide +kernel
theorem dX8_transform_51 : decode cX8_transform 51 = .ok (.invokestatic 47, 3) := by decide +kernel
theorem dX8_transform_54 : decode cX8_transform 54 = .ok (.ifCond .eq 14, 3) := by decide +kernel
theorem dX8_transform_57 : decode cX8_transform 57 = .ok (.iload 6, 2) := by decide +kernel
theorem dX8_transform_59 : decode cX8_transform 59 = .ok (.iconst 1, 1) := by decide +kernel
theorem dX8_transform_60 : decode cX8_transform 60 = .ok (.bipush 6, 2) := by decide +kernel
theorem dX8_transform_62 : decode cX8_transform 62 = .ok (.invokestatic 47, 3) := by decide +kernel
theorem dX8_transform_65 : decode cX8_transform 65 = .ok (.ifCond .ne 6, 3) := by decide +kernel
theorem dX8_transform_68 : decode cX8_transform 68 = .ok (.ldc 108, 2) := by decide +kernel
theorem dX8_transform_70 : decode cX8_transform 70 = .ok (.ireturn, 1) := by decide +kernel
theorem dX8_transform_71 : decode cX8_transform 71 = .ok (.aload_n 0, 1) := by decide +kernel
theorem dX8_transform_72 : decode cX8_transform 72 = .ok (.invokevirtual 110, 3) := by decide +kernel
theorem dX8_transform_75 : decode cX8_transform 75 = .ok (.aload_n 0, 1) := by decide +kernel
theorem dX8_transform_76 : decode cX8_transform 76 = .ok (.iconst 0, 1) := by decide +kernel
theorem dX8_transform_77 : decode cX8_transform 77 = .ok (.putfield 84, 3) := by decide +kernel
theorem dX8_transform_80 : decode cX8_transform 80 = .ok (.iconst 0, 1) := by decide +kernel
theorem dX8_transform_81 : decode cX8_transform 81 = .ok (.istore 7, 2) := by decide +kernel
theorem dX8_transform_83 : decode cX8_transform 83 = .ok (.iload 7, 2) := by decide +kernel
theorem dX8_transform_85 : decode cX8_transform 85 = .ok (.aload_n 0, 1) := by decide +kernel
theorem dX8_transform_86 : decode cX8_transform 86 = .ok (.iload_n 1, 1) := by decide +kernel
theorem dX8_transform_87 : decode cX8_transform 87 = .ok (.invokevirtual 59, 3) := by decide +kernel
theorem dX8_transform_90 : decode cX8_transform 90 = .ok (.if_icmp .ge 45, 3) := by decide +kernel
theorem dX8_transform_93 : decode cX8_transform 93 = .ok (.iconst 0, 1) := by decide +kernel
theorem dX8_transform_94 : decode cX8_transform 94 = .ok (.istore 8, 2) := by decide +kernel
theorem dX8_transform_96 : decode cX8_transform 96 = .ok (.iload 8, 2) := by decide +kernel
theorem dX8_transform_98 : decode cX8_transform 98 = .ok (.bipush 6, 2) := by decide +kernel
theorem dX8_transform_100 : decode cX8_transform 100 = .ok (.if_icmp .ge 29, 3) := by decide +kernel
theorem dX8_transform_103 : decode cX8_transform 103 = .ok (.aload_n 0, 1) := by decide +kernel
theorem dX8_transform_104 : decode cX8_transform 104 = .ok (.iload_n 1, 1) := by decide +kernel
theorem dX8_transform_105 : decode cX8_transform 105 = .ok (.iload 7, 2) := by decide +kernel
theorem dX8_transform_107 : decode cX8_transform 107 = .ok (.iload 8, 2) := by decide +kernel
theorem dX8_transform_109 : decode cX8_transform 109 = .ok (.invokestatic 92, 3) := by decide +kernel
theorem dX8_transform_112 : decode cX8_transform 112 = .ok (.iload_n 2, 1) := by decide +kernel
theorem dX8_transform_113 : decode cX8_transform 113 = .ok (.iload_n 3, 1) := by decide +kernel
theorem dX8_transform_114 : decode cX8_transform 114 = .ok (.iload 4, 2) := by decide +kernel
theorem dX8_transform_116 : decode cX8_transform 116 = .ok (.iload 5, 2) := by decide +kernel
theorem dX8_transform_118 : decode cX8_transform 118 = .ok (.iload 6, 2) := by decide +kernel
theorem dX8_transform_120 : decode cX8_transform 120 = .ok (.invokevirtual 181, 3) := by decide +kernel
theorem dX8_transform_123 : decode cX8_transform 123 = .ok (.iinc 8 2, 3) := by decide +kernel
theorem dX8_transform_126 : decode cX8_transform 126 = .ok (.goto (-30), 3) := by decide +kernel
theorem dX8_transform_129 : decode cX8_transform 129 = .ok (.iinc 7 1, 3) := by decide +kernel
theorem dX8_transform_132 : decode cX8_transform 132 = .ok (.goto (-49), 3) := by decide +kernel
theorem dX8_transform_135 : decode cX8_transform 135 = .ok (.aload_n 0, 1) := by decide +kernel
theorem dX8_transform_136 : decode cX8_transform 136 = .ok (.getfield 84, 3) := by decide +kernel
theorem dX8_transform_139 : decode cX8_transform 139 = .ok (.ifCond .ge 14, 3) := by decide +kernel
theorem dX8_transform_142 : decode cX8_transform 142 = .ok (.aload_n 0, 1) := by decide +kernel
theorem dX8_transform_143 : decode cX8_transform 143 = .ok (.aload_n 0, 1) := by decide +kernel
theorem dX8_transform_144 : decode cX8_transform 144 = .ok (.getfield 84, 3) := by decide +kernel
theorem dX8_transform_147 : decode cX8_transform 147 = .ok (.invokevirtual 132, 3) := by decide +kernel
theorem dX8_transform_150 : decode cX8_transform 150 = .ok (.goto 12, 3) := by decide +kernel
theorem dX8_transform_153 : decode cX8_transform 153 = .ok (.aload_n 0, 1) := by decide +kernel
theorem dX8_transform_154 : decode cX8_transform 154 = .ok (.aload_n 0, 1) := by decide +kernel
theorem dX8_transform_155 : decode cX8_transform 155 = .ok (.iload_n 1, 1) := by decide +kernel
theorem dX8_transform_156 : decode cX8_transform 156 = .ok (.invokevirtual 59, 3) := by decide +kernel
theorem dX8_transform_159 : decode cX8_transform 159 = .ok (.invokevirtual 118, 3) := by decide +kernel
theorem dX8_transform_162 : decode cX8_transform 162 = .ok (.ireturn, 1) := by decide +kernel
theorem dX8_shift_0 : decode cX8_shift 0 = .ok (.aload_n 0, 1) := by decide +kernel
theorem dX8_shift_1 : decode cX8_shift 1 = .ok (.iload_n 1, 1) := by decide +kernel
theorem dX8_shift_2 : decode cX8_shift 2 = .ok (.invokevirtual 55, 3) := by decide +kernel
theorem dX8_shift_5 : decode cX8_shift 5 = .ok (.ifCond .ne 6, 3) := by decide +kernel
theorem dX8_shift_8 : decode cX8_shift 8 = .ok (.ldc 121, 2) := by decide +kernel
theorem dX8_shift_10 : decode cX8_shift 10 = .ok (.ireturn, 1) := by decide +kernel
theorem dX8_shift_11 : decode cX8_shift 11 = .ok (.iload_n 2, 1) := by decide +kernel
theorem dX8_shift_12 : decode cX8_shift 12 = .ok (.iload_n 3, 1) := by decide +kernel
theorem dX8_shift_13 : decode cX8_shift 13 = .ok (.invokestatic 104, 3) := by decide +kernel
theorem dX8_shift_16 : decode cX8_shift 16 = .ok (.ifCond .ne 6, 3) := by decide +kernel
theorem dX8_shift_19 : decode cX8_shift 19 = .ok (.ldc 108, 2) := by decide +kernel
theorem dX8_shift_21 : decode cX8_shift 21 = .ok (.ireturn, 1) := by decide +kernel
theorem dX8_shift_22 : decode cX8_shift 22 = .ok (.aload_n 0, 1) := by decide +kernel
theorem dX8_shift_23 : decode cX8_shift 23 = .ok (.invokevirtual 110, 3) := by decide +kernel
theorem dX8_shift_26 : decode cX8_shift 26 = .ok (.aload_n 0, 1) := by decide +kernel
theorem dX8_shift_27 : decode cX8_shift 27 = .ok (.iconst 0, 1) := by decide +kernel
theorem dX8_shift_28 : decode cX8_shift 28 = .ok (.putfield 84, 3) := by decide +kernel
theorem dX8_shift_31 : decode cX8_shift 31 = .ok (.iconst 0, 1) := by decide +kernel
theorem dX8_shift_32 : decode cX8_shift 32 = .ok (.istore 4, 2) := by decide +kernel
theorem dX8_shift_34 : decode cX8_shift 34 = .ok (.iload 4, 2) := by decide +kernel
theorem dX8_shift_36 : decode cX8_shift 36 = .ok (.aload_n 0, 1) := by decide +kernel
theorem dX8_shift_37 : decode cX8_shift 37 = .ok (.iload_n 1, 1) := by decide +kernel
theorem dX8_shift_38 : decode cX8_shift 38 = .ok (.invokevirtual 59, 3) := by decide +kernel
theorem dX8_shift_41 : decode cX8_shift 41 = .ok (.if_icmp .ge 73, 3) := by decide +kernel
theorem dX8_shift_44 : decode cX8_shift 44 = .ok (.aload_n 0, 1) := by decide +kernel
theorem dX8_shift_45 : decode cX8_shift 45 = .ok (.iload_n 1, 1) := by decide +kernel
theorem dX8_shift_46 : decode cX8_shift 46 = .ok (.iload 4, 2) := by decide +kernel
theorem dX8_shift_48 : decode cX8_shift 48 = .ok (.iconst 0, 1) := by decide +kernel
theorem dX8_shift_49 : decode cX8_shift 49 = .ok (.invokestatic 92, 3) := by decide +kernel
theorem dX8_shift_52 : decode cX8_shift 52 = .ok (.aload_n 0, 1) := by decide +kernel
theorem dX8_shift_53 : decode cX8_shift 53 = .ok (.getfield 7, 3) := by decide +kernel
theorem dX8_shift_56 : decode cX8_shift 56 = .ok (.iload_n 1, 1) := by decide +kernel
theorem dX8_shift_57 : decode cX8_shift 57 = .ok (.iload 4, 2) := by decide +kernel
theorem dX8_shift_59 : decode cX8_shift 59 = .ok (.iconst 0, 1) := by decide +kernel
theorem dX8_shift_60 : decode cX8_shift 60 = .ok (.invokestatic 92, 3) := by decide +kernel
theorem dX8_shift_63 : decode cX8_shift 63 = .ok (.iaload, 1) := by decide +kernel
theorem dX8_shift_64 : decode cX8_shift 64 = .ok (.i2l, 1) := by decide +kernel
theorem dX8_shift_65 : decode cX8_shift 65 = .ok (.iload_n 2, 1) := by decide +kernel
theorem dX8_shift_66 : decode cX8_shift 66 = .ok (.i2l, 1) := by decide +kernel
theorem dX8_shift_67 : decode cX8_shift 67 = .ok (.ldc2_w 130, 3) := by decide +kernel
theorem dX8_shift_70 : decode cX8_shift 70 = .ok (.lmul, 1) := by decide +kernel
theorem dX8_shift_71 : decode cX8_shift 71 = .ok (.ladd, 1) := by decide +kernel
theorem dX8_shift_72 : decode cX8_shift 72 = .ok (.lconst 1, 1) := by decide +kernel
theorem dX8_shift_73 : decode cX8_shift 73 = .ok (.invokevirtual 100, 3) := by decide +kernel
theorem dX8_shift_76 : decode cX8_shift 76 = .ok (.aload_n 0, 1) := by decide +kernel
theorem dX8_shift_77 : decode cX8_shift 77 = .ok (.iload_n 1, 1) := by decide +kernel
theorem dX8_shift_78 : decode cX8_shift 78 = .ok (.iload 4, 2) := by decide +kernel
theorem dX8_shift_80 : decode cX8_shift 80 = .ok (.iconst 1, 1) := by decide +kernel
theorem dX8_shift_81 : decode cX8_shift 81 = .ok (.invokestatic 92, 3) := by decide +kernel
theorem dX8_shift_84 : decode cX8_shift 84 = .ok (.aload_n 0, 1) := by decide +kernel
theorem dX8_shift_85 : decode cX8_shift 85 = .ok (.getfield 7, 3) := by decide +kernel
theorem dX8_shift_88 : decode cX8_shift 88 = .ok (.iload_n 1, 1) := by decide +kernel
theorem dX8_shift_89 : decode cX8_shift 89 = .ok (.iload 4, 2) := by decide +kernel
theorem dX8_shift_91 : decode cX8_shift 91 = .ok (.iconst 1, 1) := by decide +kernel
theorem dX8_shift_92 : decode cX8_shift 92 = .ok (.invokestatic 92, 3) := by decide +kernel
theorem dX8_shift_95 : decode cX8_shift 95 = .ok (.iaload, 1) := by decide +kernel
theorem dX8_shift_96 : decode cX8_shift 96 = .ok (.i2l, 1) := by decide +kernel
theorem dX8_shift_97 : decode cX8_shift 97 = .ok (.iload_n 3, 1) := by decide +kernel
theorem dX8_shift_98 : decode cX8_shift 98 = .ok (.i2l, 1) := by decide +kernel
theorem dX8_shift_99 : decode cX8_shift 99 = .ok (.ldc2_w 130, 3) := by decide +kernel
theorem dX8_shift_102 : decode cX8_shift 102 = .ok (.lmul, 1) := by decide +kernel
theorem dX8_shift_103 : decode cX8_shift 103 = .ok (.ladd, 1) := by decide +kernel
theorem dX8_shift_104 : decode cX8_shift 104 = .ok (.lconst 1, 1) := by decide +kernel
theorem dX8_shift_105 : decode cX8_shift 105 = .ok (.invokevirtual 100, 3) := by decide +kernel
theorem dX8_shift_108 : decode cX8_shift 108 = .ok (.iinc 4 1, 3) := by decide +kernel
theorem dX8_shift_111 : decode cX8_shift 111 = .ok (.goto (-77), 3) := by decide +kernel
theorem dX8_shift_114 : decode cX8_shift 114 = .ok (.aload_n 0, 1) := by decide +kernel
theorem dX8_shift_115 : decode cX8_shift 115 = .ok (.getfield 84, 3) := by decide +kernel
theorem dX8_shift_118 : decode cX8_shift 118 = .ok (.ifCond .ge 14, 3) := by decide +kernel
theorem dX8_shift_121 : decode cX8_shift 121 = .ok (.aload_n 0, 1) := by decide +kernel
theorem dX8_shift_122 : decode cX8_shift 122 = .ok (.aload_n 0, 1) := by decide +kernel
theorem dX8_shift_123 : decode cX8_shift 123 = .ok (.getfield 84, 3) := by decide +kernel
theorem dX8_shift_126 : decode cX8_shift 126 = .ok (.invokevirtual 132, 3) := by decide +kernel
theorem dX8_shift_129 : decode cX8_shift 129 = .ok (.goto 12, 3) := by decide +kernel
theorem dX8_shift_132 : decode cX8_shift 132 = .ok (.aload_n 0, 1) := by decide +kernel
theorem dX8_shift_133 : decode cX8_shift 133 = .ok (.aload_n 0, 1) := by decide +kernel
theorem dX8_shift_134 : decode cX8_shift 134 = .ok (.iload_n 1, 1) := by decide +kernel
theorem dX8_shift_135 : decode cX8_shift 135 = .ok (.invokevirtual 59, 3) := by decide +kernel
theorem dX8_shift_138 : decode cX8_shift 138 = .ok (.invokevirtual 118, 3) := by decide +kernel
theorem dX8_shift_141 : decode cX8_shift 141 = .ok (.ireturn, 1) := by decide +kernel
theorem dX8_undo_0 : decode cX8_undo 0 = .ok (.aload_n 0, 1) := by decide +kernel
theorem dX8_undo_1 : decode cX8_undo 1 = .ok (.getfield 72, 3) := by decide +kernel
theorem dX8_undo_4 : decode cX8_undo 4 = .ok (.ifCond .ne 6, 3) := by decide +kernel
theorem dX8_undo_7 : decode cX8_undo 7 = .ok (.ldc 122, 2) := by decide +kernel
theorem dX8_undo_9 : decode cX8_undo 9 = .ok (.ireturn, 1) := by decide +kernel
theorem dX8_undo_10 : decode cX8_undo 10 = .ok (.aload_n 0, 1) := by decide +kernel
theorem dX8_undo_11 : decode cX8_undo 11 = .ok (.aload_n 0, 1) := by decide +kernel
theorem dX8_undo_12 : decode cX8_undo 12 = .ok (.getfield 7, 3) := by decide +kernel
theorem dX8_undo_15 : decode cX8_undo 15 = .ok (.iconst 0, 1) := by decide +kernel
theorem dX8_undo_16 : decode cX8_undo 16 = .ok (.aload_n 0, 1) := by decide +kernel
theorem dX8_undo_17 : decode cX8_undo 17 = .ok (.getfield 19, 3) := by decide +kernel
theorem dX8_undo_20 : decode cX8_undo 20 = .ok (.sipush 589, 3) := by decide +kernel
theorem dX8_undo_23 : decode cX8_undo 23 = .ok (.aload_n 0, 1) := by decide +kernel
theorem dX8_undo_24 : decode cX8_undo 24 = .ok (.getfield 80, 3) := by decide +kernel
theorem dX8_undo_27 : decode cX8_undo 27 = .ok (.imul, 1) := by decide +kernel
theorem dX8_undo_28 : decode cX8_undo 28 = .ok (.invokevirtual 68, 3) := by decide +kernel
theorem dX8_undo_31 : decode cX8_undo 31 = .ok (.aload_n 0, 1) := by decide +kernel
theorem dX8_undo_32 : decode cX8_undo 32 = .ok (.dup, 1) := by decide +kernel
theorem dX8_undo_33 : decode cX8_undo 33 = .ok (.getfield 80, 3) := by decide +kernel
theorem dX8_undo_36 : decode cX8_undo 36 = .ok (.iconst 1, 1) := by decide +kernel
theorem dX8_undo_37 : decode cX8_undo 37 = .ok (.iadd, 1) := by decide +kernel
theorem dX8_undo_38 : decode cX8_undo 38 = .ok (.putfield 80, 3) := by decide +kernel
theorem dX8_undo_41 : decode cX8_undo 41 = .ok (.aload_n 0, 1) := by decide +kernel
theorem dX8_undo_42 : decode cX8_undo 42 = .ok (.dup, 1) := by decide +kernel
theorem dX8_undo_43 : decode cX8_undo 43 = .ok (.getfield 72, 3) := by decide +kernel
theorem dX8_undo_46 : decode cX8_undo 46 = .ok (.iconst 1, 1) := by decide +kernel
theorem dX8_undo_47 : decode cX8_undo 47 = .ok (.isub, 1) := by decide +kernel
theorem dX8_undo_48 : decode cX8_undo 48 = .ok (.putfield 72, 3) := by decide +kernel
theorem dX8_undo_51 : decode cX8_undo 51 = .ok (.aload_n 0, 1) := by decide +kernel
theorem dX8_undo_52 : decode cX8_undo 52 = .ok (.aload_n 0, 1) := by decide +kernel
theorem dX8_undo_53 : decode cX8_undo 53 = .ok (.getfield 16, 3) := by decide +kernel
theorem dX8_undo_56 : decode cX8_undo 56 = .ok (.sipush 589, 3) := by decide +kernel
theorem dX8_undo_59 : decode cX8_undo 59 = .ok (.aload_n 0, 1) := by decide +kernel
theorem dX8_undo_60 : decode cX8_undo 60 = .ok (.getfield 72, 3) := by decide +kernel
theorem dX8_undo_63 : decode cX8_undo 63 = .ok (.imul, 1) := by decide +kernel
theorem dX8_undo_64 : decode cX8_undo 64 = .ok (.aload_n 0, 1) := by decide +kernel
theorem dX8_undo_65 : decode cX8_undo 65 = .ok (.getfield 7, 3) := by decide +kernel
theorem dX8_undo_68 : decode cX8_undo 68 = .ok (.iconst 0, 1) := by decide +kernel
theorem dX8_undo_69 : decode cX8_undo 69 = .ok (.invokevirtual 68, 3) := by decide +kernel
theorem dX8_undo_72 : decode cX8_undo 72 = .ok (.aload_n 0, 1) := by decide +kernel
theorem dX8_undo_73 : decode cX8_undo 73 = .ok (.getfield 72, 3) := by decide +kernel
theorem dX8_undo_76 : decode cX8_undo 76 = .ok (.ireturn, 1) := by decide +kernel
theorem dX8_redo_0 : decode cX8_redo 0 = .ok (.aload_n 0, 1) := by decide +kernel
theorem dX8_redo_1 : decode cX8_redo 1 = .ok (.getfield 80, 3) := by decide +kernel
theorem dX8_redo_4 : decode cX8_redo 4 = .ok (.ifCond .ne 6, 3) := by decide +kernel
theorem dX8_redo_7 : decode cX8_redo 7 = .ok (.ldc 122, 2) := by decide +kernel
theorem dX8_redo_9 : decode cX8_redo 9 = .ok (.ireturn, 1) := by decide +kernel
theorem dX8_redo_10 : decode cX8_redo 10 = .ok (.aload_n 0, 1) := by decide +kernel
theorem dX8_redo_11 : decode cX8_redo 11 = .ok (.aload_n 0, 1) := by decide +kernel
theorem dX8_redo_12 : decode cX8_redo 12 = .ok (.getfield 7, 3) := by decide +kernel
theorem dX8_redo_15 : decode cX8_redo 15 = .ok (.invokevirtual 76, 3) := by decide +kernel
theorem dX8_redo_18 : decode cX8_redo 18 = .ok (.aload_n 0, 1) := by decide +kernel
theorem dX8_redo_19 : decode cX8_redo 19 = .ok (.dup, 1) := by decide +kernel
theorem dX8_redo_20 : decode cX8_redo 20 = .ok (.getfield 80, 3) := by decide +kernel
theorem dX8_redo_23 : decode cX8_redo 23 = .ok (.iconst 1, 1) := by decide +kernel
theorem dX8_redo_24 : decode cX8_redo 24 = .ok (.isub, 1) := by decide +kernel
theorem dX8_redo_25 : decode cX8_redo 25 = .ok (.putfield 80, 3) := by decide +kernel
theorem dX8_redo_28 : decode cX8_redo 28 = .ok (.aload_n 0, 1) := by decide +kernel
theorem dX8_redo_29 : decode cX8_redo 29 = .ok (.aload_n 0, 1) := by decide +kernel
theorem dX8_redo_30 : decode cX8_redo 30 = .ok (.getfield 19, 3) := by decide +kernel
theorem dX8_redo_33 : decode cX8_redo 33 = .ok (.sipush 589, 3) := by decide +kernel
theorem dX8_redo_36 : decode cX8_redo 36 = .ok (.aload_n 0, 1) := by decide +kernel
theorem dX8_redo_37 : decode cX8_redo 37 = .ok (.getfield 80, 3) := by decide +kernel
theorem dX8_redo_40 : decode cX8_redo 40 = .ok (.imul, 1) := by decide +kernel
theorem dX8_redo_41 : decode cX8_redo 41 = .ok (.aload_n 0, 1) := by decide +kernel
theorem dX8_redo_42 : decode cX8_redo 42 = .ok (.getfield 7, 3) := by decide +kernel
theorem dX8_redo_45 : decode cX8_redo 45 = .ok (.iconst 0, 1) := by decide +kernel
theorem dX8_redo_46 : decode cX8_redo 46 = .ok (.invokevirtual 68, 3) := by decide +kernel
theorem dX8_redo_49 : decode cX8_redo 49 = .ok (.aload_n 0, 1) := by decide +kernel
theorem dX8_redo_50 : decode cX8_redo 50 = .ok (.getfield 80, 3) := by decide +kernel
theorem dX8_redo_53 : decode cX8_redo 53 = .ok (.ireturn, 1) := by decide +kernel
theorem dX8_paths_0 : decode cX8_paths 0 = .ok (.aload_n 0, 1) := by decide +kernel
theorem dX8_paths_1 : decode cX8_paths 1 = .ok (.getfield 7, 3) := by decide +kernel
theorem dX8_paths_4 : decode cX8_paths 4 = .ok (.iconst 0, 1) := by decide +kernel
theorem dX8_paths_5 : decode cX8_paths 5 = .ok (.iaload, 1) := by decide +kernel
theorem dX8_paths_6 : decode cX8_paths 6 = .ok (.ireturn, 1) := by decide +kernel
theorem dX8_nodes_0 : decode cX8_nodes 0 = .ok (.aload_n 0, 1) := by decide +kernel
theorem dX8_nodes_1 : decode cX8_nodes 1 = .ok (.iload_n 1, 1) := by decide +kernel
theorem dX8_nodes_2 : decode cX8_nodes 2 = .ok (.invokevirtual 55, 3) := by decide +kernel
theorem dX8_nodes_5 : decode cX8_nodes 5 = .ok (.ifCond .eq 11, 3) := by decide +kernel
theorem dX8_nodes_8 : decode cX8_nodes 8 = .ok (.aload_n 0, 1) := by decide +kernel
theorem dX8_nodes_9 : decode cX8_nodes 9 = .ok (.iload_n 1, 1) := by decide +kernel
theorem dX8_nodes_10 : decode cX8_nodes 10 = .ok (.invokevirtual 59, 3) := by decide +kernel
theorem dX8_nodes_13 : decode cX8_nodes 13 = .ok (.goto 5, 3) := by decide +kernel
theorem dX8_nodes_16 : decode cX8_nodes 16 = .ok (.ldc 121, 2) := by decide +kernel
theorem dX8_nodes_18 : decode cX8_nodes 18 = .ok (.ireturn, 1) := by decide +kernel
theorem dX8_isClosed_0 : decode cX8_isClosed 0 = .ok (.aload_n 0, 1) := by decide +kernel
theorem dX8_isClosed_1 : decode cX8_isClosed 1 = .ok (.iload_n 1, 1) := by decide +kernel
theorem dX8_isClosed_2 : decode cX8_isClosed 2 = .ok (.invokevirtual 55, 3) := by decide +kernel
theorem dX8_isClosed_5 : decode cX8_isClosed 5 = .ok (.ifCond .ne 8, 3) := by decide +kernel
theorem dX8_isClosed_8 : decode cX8_isClosed 8 = .ok (.ldc 121, 2) := by decide +kernel
theorem dX8_isClosed_10 : decode cX8_isClosed 10 = .ok (.goto 16, 3) := by decide +kernel
theorem dX8_isClosed_13 : decode cX8_isClosed 13 = .ok (.aload_n 0, 1) := by decide +kernel
theorem dX8_isClosed_14 : decode cX8_isClosed 14 = .ok (.iload_n 1, 1) := by decide +kernel
theorem dX8_isClosed_15 : decode cX8_isClosed 15 = .ok (.invokevirtual 62, 3) := by decide +kernel
theorem dX8_isClosed_18 : decode cX8_isClosed 18 = .ok (.ifCond .eq 7, 3) := by decide +kernel
theorem dX8_isClosed_21 : decode cX8_isClosed 21 = .ok (.iconst 1, 1) := by decide +kernel
theorem dX8_isClosed_22 : decode cX8_isClosed 22 = .ok (.goto 4, 3) := by decide +kernel
theorem dX8_isClosed_25 : decode cX8_isClosed 25 = .ok (.iconst 0, 1) := by decide +kernel
theorem dX8_isClosed_26 : decode cX8_isClosed 26 = .ok (.ireturn, 1) := by decide +kernel
theorem dX8_coordinate_0 : decode cX8_coordinate 0 = .ok (.aload_n 0, 1) := by decide +kernel
theorem dX8_coordinate_1 : decode cX8_coordinate 1 = .ok (.iload_n 1, 1) := by decide +kernel
theorem dX8_coordinate_2 : decode cX8_coordinate 2 = .ok (.iload_n 2, 1) := by decide +kernel
theorem dX8_coordinate_3 : decode cX8_coordinate 3 = .ok (.invokevirtual 127, 3) := by decide +kernel
theorem dX8_coordinate_6 : decode cX8_coordinate 6 = .ok (.ifCond .ne 6, 3) := by decide +kernel
theorem dX8_coordinate_9 : decode cX8_coordinate 9 = .ok (.ldc 121, 2) := by decide +kernel
theorem dX8_coordinate_11 : decode cX8_coordinate 11 = .ok (.ireturn, 1) := by decide +kernel
theorem dX8_coordinate_12 : decode cX8_coordinate 12 = .ok (.iload_n 3, 1) := by decide +kernel
theorem dX8_coordinate_13 : decode cX8_coordinate 13 = .ok (.iconst 0, 1) := by decide +kernel
theorem dX8_coordinate_14 : decode cX8_coordinate 14 = .ok (.iconst 5, 1) := by decide +kernel
theorem dX8_coordinate_15 : decode cX8_coordinate 15 = .ok (.invokestatic 47, 3) := by decide +kernel
theorem dX8_coordinate_18 : decode cX8_coordinate 18 = .ok (.ifCond .eq 17, 3) := by decide +kernel
theorem dX8_coordinate_21 : decode cX8_coordinate 21 = .ok (.aload_n 0, 1) := by decide +kernel
theorem dX8_coordinate_22 : decode cX8_coordinate 22 = .ok (.getfield 7, 3) := by decide +kernel
theorem dX8_coordinate_25 : decode cX8_coordinate 25 = .ok (.iload_n 1, 1) := by decide +kernel
theorem dX8_coordinate_26 : decode cX8_coordinate 26 = .ok (.iload_n 2, 1) := by decide +kernel
theorem dX8_coordinate_27 : decode cX8_coordinate 27 = .ok (.iload_n 3, 1) := by decide +kernel
theorem dX8_coordinate_28 : decode cX8_coordinate 28 = .ok (.invokestatic 92, 3) := by decide +kernel
theorem dX8_coordinate_31 : decode cX8_coordinate 31 = .ok (.iaload, 1) := by decide +kernel
theorem dX8_coordinate_32 : decode cX8_coordinate 32 = .ok (.goto 5, 3) := by decide +kernel
theorem dX8_coordinate_35 : decode cX8_coordinate 35 = .ok (.ldc 108, 2) := by decide +kernel
theorem dX8_coordinate_37 : decode cX8_coordinate 37 = .ok (.ireturn, 1) := by decide +kernel
theorem dX8_ratio_0 : decode cX8_ratio 0 = .ok (.aload_n 0, 1) := by decide +kernel
theorem dX8_ratio_1 : decode cX8_ratio 1 = .ok (.iload_n 1, 1) := by decide +kernel
theorem dX8_ratio_2 : decode cX8_ratio 2 = .ok (.iload_n 2, 1) := by decide +kernel
theorem dX8_ratio_3 : decode cX8_ratio 3 = .ok (.invokevirtual 127, 3) := by decide +kernel
theorem dX8_ratio_6 : decode cX8_ratio 6 = .ok (.ifCond .ne 6, 3) := by decide +kernel
theorem dX8_ratio_9 : decode cX8_ratio 9 = .ok (.ldc 121, 2) := by decide +kernel
theorem dX8_ratio_11 : decode cX8_ratio 11 = .ok (.ireturn, 1) := by decide +kernel
theorem dX8_ratio_12 : decode cX8_ratio 12 = .ok (.aload_n 0, 1) := by decide +kernel
theorem dX8_ratio_13 : decode cX8_ratio 13 = .ok (.iload_n 1, 1) := by decide +kernel
theorem dX8_ratio_14 : decode cX8_ratio 14 = .ok (.iload_n 2, 1) := by decide +kernel
theorem dX8_ratio_15 : decode cX8_ratio 15 = .ok (.invokevirtual 135, 3) := by decide +kernel
theorem dX8_ratio_18 : decode cX8_ratio 18 = .ok (.ifCond .eq 27, 3) := by decide +kernel
theorem dX8_ratio_21 : decode cX8_ratio 21 = .ok (.aload_n 0, 1) := by decide +kernel
theorem dX8_ratio_22 : decode cX8_ratio 22 = .ok (.getfield 7, 3) := by decide +kernel
theorem dX8_ratio_25 : decode cX8_ratio 25 = .ok (.iload_n 1, 1) := by decide +kernel
theorem dX8_ratio_26 : decode cX8_ratio 26 = .ok (.iload_n 2, 1) := by decide +kernel
theorem dX8_ratio_27 : decode cX8_ratio 27 = .ok (.iload_n 3, 1) := by decide +kernel
theorem dX8_ratio_28 : decode cX8_ratio 28 = .ok (.ifCond .eq 8, 3) := by decide +kernel
theorem dX8_ratio_31 : decode cX8_ratio 31 = .ok (.bipush 7, 2) := by decide +kernel
theorem dX8_ratio_33 : decode cX8_ratio 33 = .ok (.goto 5, 3) := by decide +kernel
theorem dX8_ratio_36 : decode cX8_ratio 36 = .ok (.bipush 6, 2) := by decide +kernel
theorem dX8_ratio_38 : decode cX8_ratio 38 = .ok (.invokestatic 92, 3) := by decide +kernel
theorem dX8_ratio_41 : decode cX8_ratio 41 = .ok (.iaload, 1) := by decide +kernel
theorem dX8_ratio_42 : decode cX8_ratio 42 = .ok (.goto 5, 3) := by decide +kernel
theorem dX8_ratio_45 : decode cX8_ratio 45 = .ok (.ldc 184, 2) := by decide +kernel
theorem dX8_ratio_47 : decode cX8_ratio 47 = .ok (.ireturn, 1) := by decide +kernel
theorem dX8_point_0 : decode cX8_point 0 = .ok (.aload_n 0, 1) := by decide +kernel
theorem dX8_point_1 : decode cX8_point 1 = .ok (.iload_n 1, 1) := by decide +kernel
theorem dX8_point_2 : decode cX8_point 2 = .ok (.iload_n 2, 1) := by decide +kernel
theorem dX8_point_3 : decode cX8_point 3 = .ok (.invokevirtual 152, 3) := by decide +kernel
theorem dX8_point_6 : decode cX8_point 6 = .ok (.ifCond .ne 6, 3) := by decide +kernel
theorem dX8_point_9 : decode cX8_point 9 = .ok (.ldc 121, 2) := by decide +kernel
theorem dX8_point_11 : decode cX8_point 11 = .ok (.ireturn, 1) := by decide +kernel
theorem dX8_point_12 : decode cX8_point 12 = .ok (.iload 4, 2) := by decide +kernel
theorem dX8_point_14 : decode cX8_point 14 = .ok (.iconst 1, 1) := by decide +kernel
theorem dX8_point_15 : decode cX8_point 15 = .ok (.bipush 6, 2) := by decide +kernel
theorem dX8_point_17 : decode cX8_point 17 = .ok (.invokestatic 47, 3) := by decide +kernel
theorem dX8_point_20 : decode cX8_point 20 = .ok (.ifCond .eq 13, 3) := by decide +kernel
theorem dX8_point_23 : decode cX8_point 23 = .ok (.iload_n 3, 1) := by decide +kernel
theorem dX8_point_24 : decode cX8_point 24 = .ok (.iconst 0, 1) := by decide +kernel
theorem dX8_point_25 : decode cX8_point 25 = .ok (.iload 4, 2) := by decide +kernel
theorem dX8_point_27 : decode cX8_point 27 = .ok (.invokestatic 47, 3) := by decide +kernel
theorem dX8_point_30 : decode cX8_point 30 = .ok (.ifCond .ne 6, 3) := by decide +kernel
theorem dX8_point_33 : decode cX8_point 33 = .ok (.ldc 108, 2) := by decide +kernel
theorem dX8_point_35 : decode cX8_point 35 = .ok (.ireturn, 1) := by decide +kernel
theorem dX8_point_36 : decode cX8_point 36 = .ok (.aload_n 0, 1) := by decide +kernel
theorem dX8_point_37 : decode cX8_point 37 = .ok (.iload_n 1, 1) := by decide +kernel
theorem dX8_point_38 : decode cX8_point 38 = .ok (.iload_n 2, 1) := by decide +kernel
theorem dX8_point_39 : decode cX8_point 39 = .ok (.invokevirtual 155, 3) := by decide +kernel
theorem dX8_point_42 : decode cX8_point 42 = .ok (.iload 5, 2) := by decide +kernel
theorem dX8_point_44 : decode cX8_point 44 = .ok (.ifCond .eq 7, 3) := by decide +kernel
theorem dX8_point_47 : decode cX8_point 47 = .ok (.iconst 4, 1) := by decide +kernel
theorem dX8_point_48 : decode cX8_point 48 = .ok (.goto 4, 3) := by decide +kernel
theorem dX8_point_51 : decode cX8_point 51 = .ok (.iconst 0, 1) := by decide +kernel
theorem dX8_point_52 : decode cX8_point 52 = .ok (.istore 6, 2) := by decide +kernel
theorem dX8_point_54 : decode cX8_point 54 = .ok (.aload_n 0, 1) := by decide +kernel
theorem dX8_point_55 : decode cX8_point 55 = .ok (.getfield 35, 3) := by decide +kernel
theorem dX8_point_58 : decode cX8_point 58 = .ok (.iload 6, 2) := by decide +kernel
theorem dX8_point_60 : decode cX8_point 60 = .ok (.iaload, 1) := by decide +kernel
theorem dX8_point_61 : decode cX8_point 61 = .ok (.i2l, 1) := by decide +kernel
theorem dX8_point_62 : decode cX8_point 62 = .ok (.aload_n 0, 1) := by decide +kernel
theorem dX8_point_63 : decode cX8_point 63 = .ok (.getfield 35, 3) := by decide +kernel
theorem dX8_point_66 : decode cX8_point 66 = .ok (.iload 6, 2) := by decide +kernel
theorem dX8_point_68 : decode cX8_point 68 = .ok (.iconst 1, 1) := by decide +kernel
theorem dX8_point_69 : decode cX8_point 69 = .ok (.iadd, 1) := by decide +kernel
theorem dX8_point_70 : decode cX8_point 70 = .ok (.iaload, 1) := by decide +kernel
theorem dX8_point_71 : decode cX8_point 71 = .ok (.i2l, 1) := by decide +kernel
theorem dX8_point_72 : decode cX8_point 72 = .ok (.iload_n 3, 1) := by decide +kernel
theorem dX8_point_73 : decode cX8_point 73 = .ok (.iload 4, 2) := by decide +kernel
theorem dX8_point_75 : decode cX8_point 75 = .ok (.invokestatic 148, 3) := by decide +kernel
theorem dX8_point_78 : decode cX8_point 78 = .ok (.lstore 7, 2) := by decide +kernel
theorem dX8_point_80 : decode cX8_point 80 = .ok (.aload_n 0, 1) := by decide +kernel
theorem dX8_point_81 : decode cX8_point 81 = .ok (.getfield 35, 3) := by decide +kernel
theorem dX8_point_84 : decode cX8_point 84 = .ok (.iload 6, 2) := by decide +kernel
theorem dX8_point_86 : decode cX8_point 86 = .ok (.iconst 1, 1) := by decide +kernel
theorem dX8_point_87 : decode cX8_point 87 = .ok (.iadd, 1) := by decide +kernel
theorem dX8_point_88 : decode cX8_point 88 = .ok (.iaload, 1) := by decide +kernel
theorem dX8_point_89 : decode cX8_point 89 = .ok (.i2l, 1) := by decide +kernel
theorem dX8_point_90 : decode cX8_point 90 = .ok (.aload_n 0, 1) := by decide +kernel
theorem dX8_point_91 : decode cX8_point 91 = .ok (.getfield 35, 3) := by decide +kernel
theorem dX8_point_94 : decode cX8_point 94 = .ok (.iload 6, 2) := by decide +kernel
theorem dX8_point_96 : decode cX8_point 96 = .ok (.iconst 2, 1) := by decide +kernel
theorem dX8_point_97 : decode cX8_point 97 = .ok (.iadd, 1) := by decide +kernel
theorem dX8_point_98 : decode cX8_point 98 = .ok (.iaload, 1) := by decide +kernel
theorem dX8_point_99 : decode cX8_point 99 = .ok (.i2l, 1) := by decide +kernel
theorem dX8_point_100 : decode cX8_point 100 = .ok (.iload_n 3, 1) := by decide +kernel
theorem dX8_point_101 : decode cX8_point 101 = .ok (.iload 4, 2) := by decide +kernel
theorem dX8_point_103 : decode cX8_point 103 = .ok (.invokestatic 148, 3) := by decide +kernel
theorem dX8_point_106 : decode cX8_point 106 = .ok (.lstore 9, 2) := by decide +kernel
theorem dX8_point_108 : decode cX8_point 108 = .ok (.aload_n 0, 1) := by decide +kernel
theorem dX8_point_109 : decode cX8_point 109 = .ok (.getfield 35, 3) := by decide +kernel
theorem dX8_point_112 : decode cX8_point 112 = .ok (.iload 6, 2) := by decide +kernel
theorem dX8_point_114 : decode cX8_point 114 = .ok (.iconst 2, 1) := by decide +kernel
theorem dX8_point_115 : decode cX8_point 115 = .ok (.iadd, 1) := by decide +kernel
theorem dX8_point_116 : decode cX8_point 116 = .ok (.iaload, 1) := by decide +kernel
theorem dX8_point_117 : decode cX8_point 117 = .ok (.i2l, 1) := by decide +kernel
theorem dX8_point_118 : decode cX8_point 118 = .ok (.aload_n 0, 1) := by decide +kernel
theorem dX8_point_119 : decode cX8_point 119 = .ok (.getfield 35, 3) := by decide +kernel
theorem dX8_point_122 : decode cX8_point 122 = .ok (.iload 6, 2) := by decide +kernel
theorem dX8_point_124 : decode cX8_point 124 = .ok (.iconst 3, 1) := by decide +kernel
theorem dX8_point_125 : decode cX8_point 125 = .ok (.iadd, 1) := by decide +kernel
theorem dX8_point_126 : decode cX8_point 126 = .ok (.iaload, 1) := by decide +kernel
theorem dX8_point_127 : decode cX8_point 127 = .ok (.i2l, 1) := by decide +kernel
theorem dX8_point_128 : decode cX8_point 128 = .ok (.iload_n 3, 1) := by decide +kernel
theorem dX8_point_129 : decode cX8_point 129 = .ok (.iload 4, 2) := by decide +kernel
theorem dX8_point_131 : decode cX8_point 131 = .ok (.invokestatic 148, 3) := by decide +kernel
theorem dX8_point_134 : decode cX8_point 134 = .ok (.lstore 11, 2) := by decide +kernel
theorem dX8_point_136 : decode cX8_point 136 = .ok (.lload 7, 2) := by decide +kernel
theorem dX8_point_138 : decode cX8_point 138 = .ok (.lload 9, 2) := by decide +kernel
theorem dX8_point_140 : decode cX8_point 140 = .ok (.iload_n 3, 1) := by decide +kernel
theorem dX8_point_141 : decode cX8_point 141 = .ok (.iload 4, 2) := by decide +kernel
theorem dX8_point_143 : decode cX8_point 143 = .ok (.invokestatic 148, 3) := by decide +kernel
theorem dX8_point_146 : decode cX8_point 146 = .ok (.lload 9, 2) := by decide +kernel
theorem dX8_point_148 : decode cX8_point 148 = .ok (.lload 11, 2) := by decide +kernel
theorem dX8_point_150 : decode cX8_point 150 = .ok (.iload_n 3, 1) := by decide +kernel
theorem dX8_point_151 : decode cX8_point 151 = .ok (.iload 4, 2) := by decide +kernel
theorem dX8_point_153 : decode cX8_point 153 = .ok (.invokestatic 148, 3) := by decide +kernel
theorem dX8_point_156 : decode cX8_point 156 = .ok (.iload_n 3, 1) := by decide +kernel
theorem dX8_point_157 : decode cX8_point 157 = .ok (.iload 4, 2) := by decide +kernel
theorem dX8_point_159 : decode cX8_point 159 = .ok (.invokestatic 148, 3) := by decide +kernel
theorem dX8_point_162 : decode cX8_point 162 = .ok (.lstore 13, 2) := by decide +kernel
theorem dX8_point_164 : decode cX8_point 164 = .ok (.iload 4, 2) := by decide +kernel
theorem dX8_point_166 : decode cX8_point 166 = .ok (.i2l, 1) := by decide +kernel
theorem dX8_point_167 : decode cX8_point 167 = .ok (.iload 4, 2) := by decide +kernel
theorem dX8_point_169 : decode cX8_point 169 = .ok (.i2l, 1) := by decide +kernel
theorem dX8_point_170 : decode cX8_point 170 = .ok (.lmul, 1) := by decide +kernel
theorem dX8_point_171 : decode cX8_point 171 = .ok (.iload 4, 2) := by decide +kernel
theorem dX8_point_173 : decode cX8_point 173 = .ok (.i2l, 1) := by decide +kernel
theorem dX8_point_174 : decode cX8_point 174 = .ok (.lmul, 1) := by decide +kernel
theorem dX8_point_175 : decode cX8_point 175 = .ok (.lstore 15, 2) := by decide +kernel
theorem dX8_point_177 : decode cX8_point 177 = .ok (.lload 13, 2) := by decide +kernel
theorem dX8_point_179 : decode cX8_point 179 = .ok (.lload 15, 2) := by decide +kernel
theorem dX8_point_181 : decode cX8_point 181 = .ok (.lrem, 1) := by decide +kernel
theorem dX8_point_182 : decode cX8_point 182 = .ok (.lconst 0, 1) := by decide +kernel
theorem dX8_point_183 : decode cX8_point 183 = .ok (.lcmp, 1) := by decide +kernel
theorem dX8_point_184 : decode cX8_point 184 = .ok (.ifCond .ne 12, 3) := by decide +kernel
theorem dX8_point_187 : decode cX8_point 187 = .ok (.lload 13, 2) := by decide +kernel
theorem dX8_point_189 : decode cX8_point 189 = .ok (.lload 15, 2) := by decide +kernel
theorem dX8_point_191 : decode cX8_point 191 = .ok (.ldiv, 1) := by decide +kernel
theorem dX8_point_192 : decode cX8_point 192 = .ok (.l2i, 1) := by decide +kernel
theorem dX8_point_193 : decode cX8_point 193 = .ok (.goto 5, 3) := by decide +kernel
theorem dX8_point_196 : decode cX8_point 196 = .ok (.ldc 83, 2) := by decide +kernel
theorem dX8_point_198 : decode cX8_point 198 = .ok (.ireturn, 1) := by decide +kernel
theorem dX8_binomial_0 : decode cX8_binomial 0 = .ok (.iconst 1, 1) := by decide +kernel
theorem dX8_binomial_1 : decode cX8_binomial 1 = .ok (.istore_n 2, 1) := by decide +kernel
theorem dX8_binomial_2 : decode cX8_binomial 2 = .ok (.iconst 0, 1) := by decide +kernel
theorem dX8_binomial_3 : decode cX8_binomial 3 = .ok (.istore_n 3, 1) := by decide +kernel
theorem dX8_binomial_4 : decode cX8_binomial 4 = .ok (.iload_n 3, 1) := by decide +kernel
theorem dX8_binomial_5 : decode cX8_binomial 5 = .ok (.iload_n 1, 1) := by decide +kernel
theorem dX8_binomial_6 : decode cX8_binomial 6 = .ok (.if_icmp .ge 19, 3) := by decide +kernel
theorem dX8_binomial_9 : decode cX8_binomial 9 = .ok (.iload_n 2, 1) := by decide +kernel
theorem dX8_binomial_10 : decode cX8_binomial 10 = .ok (.iload_n 0, 1) := by decide +kernel
theorem dX8_binomial_11 : decode cX8_binomial 11 = .ok (.iload_n 3, 1) := by decide +kernel
theorem dX8_binomial_12 : decode cX8_binomial 12 = .ok (.isub, 1) := by decide +kernel
theorem dX8_binomial_13 : decode cX8_binomial 13 = .ok (.imul, 1) := by decide +kernel
theorem dX8_binomial_14 : decode cX8_binomial 14 = .ok (.iload_n 3, 1) := by decide +kernel
theorem dX8_binomial_15 : decode cX8_binomial 15 = .ok (.iconst 1, 1) := by decide +kernel
theorem dX8_binomial_16 : decode cX8_binomial 16 = .ok (.iadd, 1) := by decide +kernel
theorem dX8_binomial_17 : decode cX8_binomial 17 = .ok (.idiv, 1) := by decide +kernel
theorem dX8_binomial_18 : decode cX8_binomial 18 = .ok (.istore_n 2, 1) := by decide +kernel
theorem dX8_binomial_19 : decode cX8_binomial 19 = .ok (.iinc 3 1, 3) := by decide +kernel
theorem dX8_binomial_22 : decode cX8_binomial 22 = .ok (.goto (-18), 3) := by decide +kernel
theorem dX8_binomial_25 : decode cX8_binomial 25 = .ok (.iload_n 2, 1) := by decide +kernel
theorem dX8_binomial_26 : decode cX8_binomial 26 = .ok (.ireturn, 1) := by decide +kernel
theorem dX8_integral_0 : decode cX8_integral 0 = .ok (.aload_n 0, 1) := by decide +kernel
theorem dX8_integral_1 : decode cX8_integral 1 = .ok (.iload_n 1, 1) := by decide +kernel
theorem dX8_integral_2 : decode cX8_integral 2 = .ok (.iload_n 2, 1) := by decide +kernel
theorem dX8_integral_3 : decode cX8_integral 3 = .ok (.invokevirtual 155, 3) := by decide +kernel
theorem dX8_integral_6 : decode cX8_integral 6 = .ok (.lconst 0, 1) := by decide +kernel
theorem dX8_integral_7 : decode cX8_integral 7 = .ok (.lstore_n 3, 1) := by decide +kernel
theorem dX8_integral_8 : decode cX8_integral 8 = .ok (.iconst 0, 1) := by decide +kernel
theorem dX8_integral_9 : decode cX8_integral 9 = .ok (.istore 5, 2) := by decide +kernel
theorem dX8_integral_11 : decode cX8_integral 11 = .ok (.iload 5, 2) := by decide +kernel
theorem dX8_integral_13 : decode cX8_integral 13 = .ok (.iconst 4, 1) := by decide +kernel
theorem dX8_integral_14 : decode cX8_integral 14 = .ok (.if_icmp .ge 88, 3) := by decide +kernel
theorem dX8_integral_17 : decode cX8_integral 17 = .ok (.iconst 0, 1) := by decide +kernel
theorem dX8_integral_18 : decode cX8_integral 18 = .ok (.istore 6, 2) := by decide +kernel
theorem dX8_integral_20 : decode cX8_integral 20 = .ok (.iload 6, 2) := by decide +kernel
theorem dX8_integral_22 : decode cX8_integral 22 = .ok (.iconst 3, 1) := by decide +kernel
theorem dX8_integral_23 : decode cX8_integral 23 = .ok (.if_icmp .ge 73, 3) := by decide +kernel
theorem dX8_integral_26 : decode cX8_integral 26 = .ok (.bipush 30, 2) := by decide +kernel
theorem dX8_integral_28 : decode cX8_integral 28 = .ok (.iconst 3, 1) := by decide +kernel
theorem dX8_integral_29 : decode cX8_integral 29 = .ok (.iload 5, 2) := by decide +kernel
theorem dX8_integral_31 : decode cX8_integral 31 = .ok (.invokestatic 185, 3) := by decide +kernel
theorem dX8_integral_34 : decode cX8_integral 34 = .ok (.imul, 1) := by decide +kernel
theorem dX8_integral_35 : decode cX8_integral 35 = .ok (.iconst 2, 1) := by decide +kernel
theorem dX8_integral_36 : decode cX8_integral 36 = .ok (.iload 6, 2) := by decide +kernel
theorem dX8_integral_38 : decode cX8_integral 38 = .ok (.invokestatic 185, 3) := by decide +kernel
theorem dX8_integral_41 : decode cX8_integral 41 = .ok (.imul, 1) := by decide +kernel
theorem dX8_integral_42 : decode cX8_integral 42 = .ok (.iconst 5, 1) := by decide +kernel
theorem dX8_integral_43 : decode cX8_integral 43 = .ok (.iload 5, 2) := by decide +kernel
theorem dX8_integral_45 : decode cX8_integral 45 = .ok (.iload 6, 2) := by decide +kernel
theorem dX8_integral_47 : decode cX8_integral 47 = .ok (.iadd, 1) := by decide +kernel
theorem dX8_integral_48 : decode cX8_integral 48 = .ok (.invokestatic 185, 3) := by decide +kernel
theorem dX8_integral_51 : decode cX8_integral 51 = .ok (.idiv, 1) := by decide +kernel
theorem dX8_integral_52 : decode cX8_integral 52 = .ok (.istore 7, 2) := by decide +kernel
theorem dX8_integral_54 : decode cX8_integral 54 = .ok (.lload_n 3, 1) := by decide +kernel
theorem dX8_integral_55 : decode cX8_integral 55 = .ok (.iload 7, 2) := by decide +kernel
theorem dX8_integral_57 : decode cX8_integral 57 = .ok (.i2l, 1) := by decide +kernel
theorem dX8_integral_58 : decode cX8_integral 58 = .ok (.aload_n 0, 1) := by decide +kernel
theorem dX8_integral_59 : decode cX8_integral 59 = .ok (.getfield 35, 3) := by decide +kernel
theorem dX8_integral_62 : decode cX8_integral 62 = .ok (.iload 5, 2) := by decide +kernel
theorem dX8_integral_64 : decode cX8_integral 64 = .ok (.iaload, 1) := by decide +kernel
theorem dX8_integral_65 : decode cX8_integral 65 = .ok (.i2l, 1) := by decide +kernel
theorem dX8_integral_66 : decode cX8_integral 66 = .ok (.lmul, 1) := by decide +kernel
theorem dX8_integral_67 : decode cX8_integral 67 = .ok (.aload_n 0, 1) := by decide +kernel
theorem dX8_integral_68 : decode cX8_integral 68 = .ok (.getfield 35, 3) := by decide +kernel
theorem dX8_integral_71 : decode cX8_integral 71 = .ok (.iconst 5, 1) := by decide +kernel
theorem dX8_integral_72 : decode cX8_integral 72 = .ok (.iload 6, 2) := by decide +kernel
theorem dX8_integral_74 : decode cX8_integral 74 = .ok (.iadd, 1) := by decide +kernel
theorem dX8_integral_75 : decode cX8_integral 75 = .ok (.iaload, 1) := by decide +kernel
theorem dX8_integral_76 : decode cX8_integral 76 = .ok (.aload_n 0, 1) := by decide +kernel
theorem dX8_integral_77 : decode cX8_integral 77 = .ok (.getfield 35, 3) := by decide +kernel
theorem dX8_integral_80 : decode cX8_integral 80 = .ok (.iconst 4, 1) := by decide +kernel
theorem dX8_integral_81 : decode cX8_integral 81 = .ok (.iload 6, 2) := by decide +kernel
theorem dX8_integral_83 : decode cX8_integral 83 = .ok (.iadd, 1) := by decide +kernel
theorem dX8_integral_84 : decode cX8_integral 84 = .ok (.iaload, 1) := by decide +kernel
theorem dX8_integral_85 : decode cX8_integral 85 = .ok (.isub, 1) := by decide +kernel
theorem dX8_integral_86 : decode cX8_integral 86 = .ok (.i2l, 1) := by decide +kernel
theorem dX8_integral_87 : decode cX8_integral 87 = .ok (.lmul, 1) := by decide +kernel
theorem dX8_integral_88 : decode cX8_integral 88 = .ok (.ladd, 1) := by decide +kernel
theorem dX8_integral_89 : decode cX8_integral 89 = .ok (.lstore_n 3, 1) := by decide +kernel
theorem dX8_integral_90 : decode cX8_integral 90 = .ok (.iinc 6 1, 3) := by decide +kernel
theorem dX8_integral_93 : decode cX8_integral 93 = .ok (.goto (-73), 3) := by decide +kernel
theorem dX8_integral_96 : decode cX8_integral 96 = .ok (.iinc 5 1, 3) := by decide +kernel
theorem dX8_integral_99 : decode cX8_integral 99 = .ok (.goto (-88), 3) := by decide +kernel
theorem dX8_integral_102 : decode cX8_integral 102 = .ok (.lload_n 3, 1) := by decide +kernel
theorem dX8_integral_103 : decode cX8_integral 103 = .ok (.lreturn, 1) := by decide +kernel
theorem dX8_areaOf_0 : decode cX8_areaOf 0 = .ok (.lconst 0, 1) := by decide +kernel
theorem dX8_areaOf_1 : decode cX8_areaOf 1 = .ok (.lstore_n 2, 1) := by decide +kernel
theorem dX8_areaOf_2 : decode cX8_areaOf 2 = .ok (.iconst 0, 1) := by decide +kernel
theorem dX8_areaOf_3 : decode cX8_areaOf 3 = .ok (.istore 4, 2) := by decide +kernel
theorem dX8_areaOf_5 : decode cX8_areaOf 5 = .ok (.iload 4, 2) := by decide +kernel
theorem dX8_areaOf_7 : decode cX8_areaOf 7 = .ok (.aload_n 0, 1) := by decide +kernel
theorem dX8_areaOf_8 : decode cX8_areaOf 8 = .ok (.iload_n 1, 1) := by decide +kernel
theorem dX8_areaOf_9 : decode cX8_areaOf 9 = .ok (.invokevirtual 65, 3) := by decide +kernel
theorem dX8_areaOf_12 : decode cX8_areaOf 12 = .ok (.if_icmp .ge 19, 3) := by decide +kernel
theorem dX8_areaOf_15 : decode cX8_areaOf 15 = .ok (.lload_n 2, 1) := by decide +kernel
theorem dX8_areaOf_16 : decode cX8_areaOf 16 = .ok (.aload_n 0, 1) := by decide +kernel
theorem dX8_areaOf_17 : decode cX8_areaOf 17 = .ok (.iload_n 1, 1) := by decide +kernel
theorem dX8_areaOf_18 : decode cX8_areaOf 18 = .ok (.iload 4, 2) := by decide +kernel
theorem dX8_areaOf_20 : decode cX8_areaOf 20 = .ok (.invokevirtual 188, 3) := by decide +kernel
theorem dX8_areaOf_23 : decode cX8_areaOf 23 = .ok (.ladd, 1) := by decide +kernel
theorem dX8_areaOf_24 : decode cX8_areaOf 24 = .ok (.lstore_n 2, 1) := by decide +kernel
theorem dX8_areaOf_25 : decode cX8_areaOf 25 = .ok (.iinc 4 1, 3) := by decide +kernel
theorem dX8_areaOf_28 : decode cX8_areaOf 28 = .ok (.goto (-23), 3) := by decide +kernel
theorem dX8_areaOf_31 : decode cX8_areaOf 31 = .ok (.lload_n 2, 1) := by decide +kernel
theorem dX8_areaOf_32 : decode cX8_areaOf 32 = .ok (.lreturn, 1) := by decide +kernel
theorem dX8_area_0 : decode cX8_area 0 = .ok (.aload_n 0, 1) := by decide +kernel
theorem dX8_area_1 : decode cX8_area 1 = .ok (.iload_n 1, 1) := by decide +kernel
theorem dX8_area_2 : decode cX8_area 2 = .ok (.invokevirtual 55, 3) := by decide +kernel
theorem dX8_area_5 : decode cX8_area 5 = .ok (.ifCond .ne 7, 3) := by decide +kernel
theorem dX8_area_8 : decode cX8_area 8 = .ok (.ldc2_w 192, 3) := by decide +kernel
theorem dX8_area_11 : decode cX8_area 11 = .ok (.lreturn, 1) := by decide +kernel
theorem dX8_area_12 : decode cX8_area 12 = .ok (.aload_n 0, 1) := by decide +kernel
theorem dX8_area_13 : decode cX8_area 13 = .ok (.iload_n 1, 1) := by decide +kernel
theorem dX8_area_14 : decode cX8_area 14 = .ok (.invokevirtual 62, 3) := by decide +kernel
theorem dX8_area_17 : decode cX8_area 17 = .ok (.ifCond .eq 11, 3) := by decide +kernel
theorem dX8_area_20 : decode cX8_area 20 = .ok (.aload_n 0, 1) := by decide +kernel
theorem dX8_area_21 : decode cX8_area 21 = .ok (.iload_n 1, 1) := by decide +kernel
theorem dX8_area_22 : decode cX8_area 22 = .ok (.invokevirtual 194, 3) := by decide +kernel
theorem dX8_area_25 : decode cX8_area 25 = .ok (.goto 6, 3) := by decide +kernel
theorem dX8_area_28 : decode cX8_area 28 = .ok (.ldc2_w 198, 3) := by decide +kernel
theorem dX8_area_31 : decode cX8_area 31 = .ok (.lreturn, 1) := by decide +kernel
theorem dX8_box_0 : decode cX8_box 0 = .ok (.aload_n 0, 1) := by decide +kernel
theorem dX8_box_1 : decode cX8_box 1 = .ok (.iload_n 1, 1) := by decide +kernel
theorem dX8_box_2 : decode cX8_box 2 = .ok (.invokevirtual 55, 3) := by decide +kernel
theorem dX8_box_5 : decode cX8_box 5 = .ok (.ifCond .ne 6, 3) := by decide +kernel
theorem dX8_box_8 : decode cX8_box 8 = .ok (.ldc 121, 2) := by decide +kernel
theorem dX8_box_10 : decode cX8_box 10 = .ok (.ireturn, 1) := by decide +kernel
theorem dX8_box_11 : decode cX8_box 11 = .ok (.iload_n 2, 1) := by decide +kernel
theorem dX8_box_12 : decode cX8_box 12 = .ok (.iconst 0, 1) := by decide +kernel
theorem dX8_box_13 : decode cX8_box 13 = .ok (.iconst 3, 1) := by decide +kernel
theorem dX8_box_14 : decode cX8_box 14 = .ok (.invokestatic 47, 3) := by decide +kernel
theorem dX8_box_17 : decode cX8_box 17 = .ok (.ifCond .ne 6, 3) := by decide +kernel
theorem dX8_box_20 : decode cX8_box 20 = .ok (.ldc 108, 2) := by decide +kernel
theorem dX8_box_22 : decode cX8_box 22 = .ok (.ireturn, 1) := by decide +kernel
theorem dX8_box_23 : decode cX8_box 23 = .ok (.aload_n 0, 1) := by decide +kernel
theorem dX8_box_24 : decode cX8_box 24 = .ok (.getfield 7, 3) := by decide +kernel
theorem dX8_box_27 : decode cX8_box 27 = .ok (.iload_n 1, 1) := by decide +kernel
theorem dX8_box_28 : decode cX8_box 28 = .ok (.iconst 0, 1) := by decide +kernel
theorem dX8_box_29 : decode cX8_box 29 = .ok (.iload_n 2, 1) := by decide +kernel
theorem dX8_box_30 : decode cX8_box 30 = .ok (.iconst 2, 1) := by decide +kernel
theorem dX8_box_31 : decode cX8_box 31 = .ok (.idiv, 1) := by decide +kernel
theorem dX8_box_32 : decode cX8_box 32 = .ok (.invokestatic 92, 3) := by decide +kernel
theorem dX8_box_35 : decode cX8_box 35 = .ok (.iaload, 1) := by decide +kernel
theorem dX8_box_36 : decode cX8_box 36 = .ok (.istore_n 3, 1) := by decide +kernel
theorem dX8_box_37 : decode cX8_box 37 = .ok (.iconst 0, 1) := by decide +kernel
theorem dX8_box_38 : decode cX8_box 38 = .ok (.istore 4, 2) := by decide +kernel
theorem dX8_box_40 : decode cX8_box 40 = .ok (.iload 4, 2) := by decide +kernel
theorem dX8_box_42 : decode cX8_box 42 = .ok (.aload_n 0, 1) := by decide +kernel
theorem dX8_box_43 : decode cX8_box 43 = .ok (.iload_n 1, 1) := by decide +kernel
theorem dX8_box_44 : decode cX8_box 44 = .ok (.invokevirtual 65, 3) := by decide +kernel
theorem dX8_box_47 : decode cX8_box 47 = .ok (.if_icmp .ge 80, 3) := by decide +kernel
theorem dX8_box_50 : decode cX8_box 50 = .ok (.aload_n 0, 1) := by decide +kernel
theorem dX8_box_51 : decode cX8_box 51 = .ok (.iload_n 1, 1) := by decide +kernel
theorem dX8_box_52 : decode cX8_box 52 = .ok (.iload 4, 2) := by decide +kernel
theorem dX8_box_54 : decode cX8_box 54 = .ok (.invokevirtual 155, 3) := by decide +kernel
theorem dX8_box_57 : decode cX8_box 57 = .ok (.iconst 0, 1) := by decide +kernel
theorem dX8_box_58 : decode cX8_box 58 = .ok (.istore 5, 2) := by decide +kernel
theorem dX8_box_60 : decode cX8_box 60 = .ok (.iload 5, 2) := by decide +kernel
theorem dX8_box_62 : decode cX8_box 62 = .ok (.iconst 4, 1) := by decide +kernel
theorem dX8_box_63 : decode cX8_box 63 = .ok (.if_icmp .ge 58, 3) := by decide +kernel
theorem dX8_box_66 : decode cX8_box 66 = .ok (.aload_n 0, 1) := by decide +kernel
theorem dX8_box_67 : decode cX8_box 67 = .ok (.getfield 35, 3) := by decide +kernel
theorem dX8_box_70 : decode cX8_box 70 = .ok (.iconst 4, 1) := by decide +kernel
theorem dX8_box_71 : decode cX8_box 71 = .ok (.iload_n 2, 1) := by decide +kernel
theorem dX8_box_72 : decode cX8_box 72 = .ok (.iconst 2, 1) := by decide +kernel
theorem dX8_box_73 : decode cX8_box 73 = .ok (.idiv, 1) := by decide +kernel
theorem dX8_box_74 : decode cX8_box 74 = .ok (.imul, 1) := by decide +kernel
theorem dX8_box_75 : decode cX8_box 75 = .ok (.iload 5, 2) := by decide +kernel
theorem dX8_box_77 : decode cX8_box 77 = .ok (.iadd, 1) := by decide +kernel
theorem dX8_box_78 : decode cX8_box 78 = .ok (.iaload, 1) := by decide +kernel
theorem dX8_box_79 : decode cX8_box 79 = .ok (.istore 6, 2) := by decide +kernel
theorem dX8_box_81 : decode cX8_box 81 = .ok (.iload_n 2, 1) := by decide +kernel
theorem dX8_box_82 : decode cX8_box 82 = .ok (.iconst 2, 1) := by decide +kernel
theorem dX8_box_83 : decode cX8_box 83 = .ok (.irem, 1) := by decide +kernel
theorem dX8_box_84 : decode cX8_box 84 = .ok (.ifCond .ne 18, 3) := by decide +kernel
theorem dX8_box_87 : decode cX8_box 87 = .ok (.iload 6, 2) := by decide +kernel
theorem dX8_box_89 : decode cX8_box 89 = .ok (.iload_n 3, 1) := by decide +kernel
theorem dX8_box_90 : decode cX8_box 90 = .ok (.if_icmp .ge 8, 3) := by decide +kernel
theorem dX8_box_93 : decode cX8_box 93 = .ok (.iload 6, 2) := by decide +kernel
theorem dX8_box_95 : decode cX8_box 95 = .ok (.goto 19, 3) := by decide +kernel
theorem dX8_box_98 : decode cX8_box 98 = .ok (.iload_n 3, 1) := by decide +kernel
theorem dX8_box_99 : decode cX8_box 99 = .ok (.goto 15, 3) := by decide +kernel
theorem dX8_box_102 : decode cX8_box 102 = .ok (.iload 6, 2) := by decide +kernel
theorem dX8_box_104 : decode cX8_box 104 = .ok (.iload_n 3, 1) := by decide +kernel
theorem dX8_box_105 : decode cX8_box 105 = .ok (.if_icmp .le 8, 3) := by decide +kernel
theorem dX8_box_108 : decode cX8_box 108 = .ok (.iload 6, 2) := by decide +kernel
theorem dX8_box_110 : decode cX8_box 110 = .ok (.goto 4, 3) := by decide +kernel
theorem dX8_box_113 : decode cX8_box 113 = .ok (.iload_n 3, 1) := by decide +kernel
theorem dX8_box_114 : decode cX8_box 114 = .ok (.istore_n 3, 1) := by decide +kernel
theorem dX8_box_115 : decode cX8_box 115 = .ok (.iinc 5 1, 3) := by decide +kernel
theorem dX8_box_118 : decode cX8_box 118 = .ok (.goto (-58), 3) := by decide +kernel
theorem dX8_box_121 : decode cX8_box 121 = .ok (.iinc 4 1, 3) := by decide +kernel
theorem dX8_box_124 : decode cX8_box 124 = .ok (.goto (-84), 3) := by decide +kernel
theorem dX8_box_127 : decode cX8_box 127 = .ok (.iload_n 3, 1) := by decide +kernel
theorem dX8_box_128 : decode cX8_box 128 = .ok (.ireturn, 1) := by decide +kernel
theorem dX8_find_0 : decode cX8_find 0 = .ok (.iload_n 1, 1) := by decide +kernel
theorem dX8_find_1 : decode cX8_find 1 = .ok (.iload_n 2, 1) := by decide +kernel
theorem dX8_find_2 : decode cX8_find 2 = .ok (.invokestatic 104, 3) := by decide +kernel
theorem dX8_find_5 : decode cX8_find 5 = .ok (.ifCond .ne 6, 3) := by decide +kernel
theorem dX8_find_8 : decode cX8_find 8 = .ok (.ldc 108, 2) := by decide +kernel
theorem dX8_find_10 : decode cX8_find 10 = .ok (.ireturn, 1) := by decide +kernel
theorem dX8_find_11 : decode cX8_find 11 = .ok (.iconst 0, 1) := by decide +kernel
theorem dX8_find_12 : decode cX8_find 12 = .ok (.istore_n 3, 1) := by decide +kernel
theorem dX8_find_13 : decode cX8_find 13 = .ok (.iload_n 3, 1) := by decide +kernel
theorem dX8_find_14 : decode cX8_find 14 = .ok (.aload_n 0, 1) := by decide +kernel
theorem dX8_find_15 : decode cX8_find 15 = .ok (.getfield 7, 3) := by decide +kernel
theorem dX8_find_18 : decode cX8_find 18 = .ok (.iconst 0, 1) := by decide +kernel
theorem dX8_find_19 : decode cX8_find 19 = .ok (.iaload, 1) := by decide +kernel
theorem dX8_find_20 : decode cX8_find 20 = .ok (.if_icmp .ge 74, 3) := by decide +kernel
theorem dX8_find_23 : decode cX8_find 23 = .ok (.iconst 0, 1) := by decide +kernel
theorem dX8_find_24 : decode cX8_find 24 = .ok (.istore 4, 2) := by decide +kernel
theorem dX8_find_26 : decode cX8_find 26 = .ok (.iload 4, 2) := by decide +kernel
theorem dX8_find_28 : decode cX8_find 28 = .ok (.aload_n 0, 1) := by decide +kernel
theorem dX8_find_29 : decode cX8_find 29 = .ok (.iload_n 3, 1) := by decide +kernel
theorem dX8_find_30 : decode cX8_find 30 = .ok (.invokevirtual 59, 3) := by decide +kernel
theorem dX8_find_33 : decode cX8_find 33 = .ok (.if_icmp .ge 55, 3) := by decide +kernel
theorem dX8_find_36 : decode cX8_find 36 = .ok (.aload_n 0, 1) := by decide +kernel
theorem dX8_find_37 : decode cX8_find 37 = .ok (.getfield 7, 3) := by decide +kernel
theorem dX8_find_40 : decode cX8_find 40 = .ok (.iload_n 3, 1) := by decide +kernel
theorem dX8_find_41 : decode cX8_find 41 = .ok (.iload 4, 2) := by decide +kernel
theorem dX8_find_43 : decode cX8_find 43 = .ok (.iconst 0, 1) := by decide +kernel
theorem dX8_find_44 : decode cX8_find 44 = .ok (.invokestatic 92, 3) := by decide +kernel
theorem dX8_find_47 : decode cX8_find 47 = .ok (.iaload, 1) := by decide +kernel
theorem dX8_find_48 : decode cX8_find 48 = .ok (.iload_n 1, 1) := by decide +kernel
theorem dX8_find_49 : decode cX8_find 49 = .ok (.ldc 113, 2) := by decide +kernel
theorem dX8_find_51 : decode cX8_find 51 = .ok (.imul, 1) := by decide +kernel
theorem dX8_find_52 : decode cX8_find 52 = .ok (.if_icmp .ne 30, 3) := by decide +kernel
theorem dX8_find_55 : decode cX8_find 55 = .ok (.aload_n 0, 1) := by decide +kernel
theorem dX8_find_56 : decode cX8_find 56 = .ok (.getfield 7, 3) := by decide +kernel
theorem dX8_find_59 : decode cX8_find 59 = .ok (.iload_n 3, 1) := by decide +kernel
theorem dX8_find_60 : decode cX8_find 60 = .ok (.iload 4, 2) := by decide +kernel
theorem dX8_find_62 : decode cX8_find 62 = .ok (.iconst 1, 1) := by decide +kernel
theorem dX8_find_63 : decode cX8_find 63 = .ok (.invokestatic 92, 3) := by decide +kernel
theorem dX8_find_66 : decode cX8_find 66 = .ok (.iaload, 1) := by decide +kernel
theorem dX8_find_67 : decode cX8_find 67 = .ok (.iload_n 2, 1) := by decide +kernel
theorem dX8_find_68 : decode cX8_find 68 = .ok (.ldc 113, 2) := by decide +kernel
theorem dX8_find_70 : decode cX8_find 70 = .ok (.imul, 1) := by decide +kernel
theorem dX8_find_71 : decode cX8_find 71 = .ok (.if_icmp .ne 11, 3) := by decide +kernel
theorem dX8_find_74 : decode cX8_find 74 = .ok (.bipush 100, 2) := by decide +kernel
theorem dX8_find_76 : decode cX8_find 76 = .ok (.iload_n 3, 1) := by decide +kernel
theorem dX8_find_77 : decode cX8_find 77 = .ok (.imul, 1) := by decide +kernel
theorem dX8_find_78 : decode cX8_find 78 = .ok (.iload 4, 2) := by decide +kernel
theorem dX8_find_80 : decode cX8_find 80 = .ok (.iadd, 1) := by decide +kernel
theorem dX8_find_81 : decode cX8_find 81 = .ok (.ireturn, 1) := by decide +kernel
theorem dX8_find_82 : decode cX8_find 82 = .ok (.iinc 4 1, 3) := by decide +kernel
theorem dX8_find_85 : decode cX8_find 85 = .ok (.goto (-59), 3) := by decide +kernel
theorem dX8_find_88 : decode cX8_find 88 = .ok (.iinc 3 1, 3) := by decide +kernel
theorem dX8_find_91 : decode cX8_find 91 = .ok (.goto (-78), 3) := by decide +kernel
theorem dX8_find_94 : decode cX8_find 94 = .ok (.ldc 184, 2) := by decide +kernel
theorem dX8_find_96 : decode cX8_find 96 = .ok (.ireturn, 1) := by decide +kernel
theorem dX8_corners_0 : decode cX8_corners 0 = .ok (.aload_n 0, 1) := by decide +kernel
theorem dX8_corners_1 : decode cX8_corners 1 = .ok (.iload_n 1, 1) := by decide +kernel
theorem dX8_corners_2 : decode cX8_corners 2 = .ok (.invokevirtual 55, 3) := by decide +kernel
theorem dX8_corners_5 : decode cX8_corners 5 = .ok (.ifCond .ne 6, 3) := by decide +kernel
theorem dX8_corners_8 : decode cX8_corners 8 = .ok (.ldc 121, 2) := by decide +kernel
theorem dX8_corners_10 : decode cX8_corners 10 = .ok (.ireturn, 1) := by decide +kernel
theorem dX8_corners_11 : decode cX8_corners 11 = .ok (.iconst 0, 1) := by decide +kernel
theorem dX8_corners_12 : decode cX8_corners 12 = .ok (.istore_n 2, 1) := by decide +kernel
theorem dX8_corners_13 : decode cX8_corners 13 = .ok (.iconst 0, 1) := by decide +kernel
theorem dX8_corners_14 : decode cX8_corners 14 = .ok (.istore_n 3, 1) := by decide +kernel
theorem dX8_corners_15 : decode cX8_corners 15 = .ok (.iload_n 3, 1) := by decide +kernel
theorem dX8_corners_16 : decode cX8_corners 16 = .ok (.aload_n 0, 1) := by decide +kernel
theorem dX8_corners_17 : decode cX8_corners 17 = .ok (.iload_n 1, 1) := by decide +kernel
theorem dX8_corners_18 : decode cX8_corners 18 = .ok (.invokevirtual 59, 3) := by decide +kernel
theorem dX8_corners_21 : decode cX8_corners 21 = .ok (.if_icmp .ge 61, 3) := by decide +kernel
theorem dX8_corners_24 : decode cX8_corners 24 = .ok (.aload_n 0, 1) := by decide +kernel
theorem dX8_corners_25 : decode cX8_corners 25 = .ok (.iload_n 1, 1) := by decide +kernel
theorem dX8_corners_26 : decode cX8_corners 26 = .ok (.invokevirtual 62, 3) := by decide +kernel
theorem dX8_corners_29 : decode cX8_corners 29 = .ok (.ifCond .ne 18, 3) := by decide +kernel
theorem dX8_corners_32 : decode cX8_corners 32 = .ok (.iload_n 3, 1) := by decide +kernel
theorem dX8_corners_33 : decode cX8_corners 33 = .ok (.ifCond .le 18, 3) := by decide +kernel
theorem dX8_corners_36 : decode cX8_corners 36 = .ok (.iload_n 3, 1) := by decide +kernel
theorem dX8_corners_37 : decode cX8_corners 37 = .ok (.aload_n 0, 1) := by decide +kernel
theorem dX8_corners_38 : decode cX8_corners 38 = .ok (.iload_n 1, 1) := by decide +kernel
theorem dX8_corners_39 : decode cX8_corners 39 = .ok (.invokevirtual 59, 3) := by decide +kernel
theorem dX8_corners_42 : decode cX8_corners 42 = .ok (.iconst 1, 1) := by decide +kernel
theorem dX8_corners_43 : decode cX8_corners 43 = .ok (.isub, 1) := by decide +kernel
theorem dX8_corners_44 : decode cX8_corners 44 = .ok (.if_icmp .ge 7, 3) := by decide +kernel
theorem dX8_corners_47 : decode cX8_corners 47 = .ok (.iconst 1, 1) := by decide +kernel
theorem dX8_corners_48 : decode cX8_corners 48 = .ok (.goto 4, 3) := by decide +kernel
theorem dX8_corners_51 : decode cX8_corners 51 = .ok (.iconst 0, 1) := by decide +kernel
theorem dX8_corners_52 : decode cX8_corners 52 = .ok (.istore 4, 2) := by decide +kernel
theorem dX8_corners_54 : decode cX8_corners 54 = .ok (.iload_n 2, 1) := by decide +kernel
theorem dX8_corners_55 : decode cX8_corners 55 = .ok (.iload 4, 2) := by decide +kernel
theorem dX8_corners_57 : decode cX8_corners 57 = .ok (.ifCond .eq 16, 3) := by decide +kernel
theorem dX8_corners_60 : decode cX8_corners 60 = .ok (.aload_n 0, 1) := by decide +kernel
theorem dX8_corners_61 : decode cX8_corners 61 = .ok (.iload_n 1, 1) := by decide +kernel
theorem dX8_corners_62 : decode cX8_corners 62 = .ok (.iload_n 3, 1) := by decide +kernel
theorem dX8_corners_63 : decode cX8_corners 63 = .ok (.invokevirtual 135, 3) := by decide +kernel
theorem dX8_corners_66 : decode cX8_corners 66 = .ok (.ifCond .ne 7, 3) := by decide +kernel
theorem dX8_corners_69 : decode cX8_corners 69 = .ok (.iconst 1, 1) := by decide +kernel
theorem dX8_corners_70 : decode cX8_corners 70 = .ok (.goto 4, 3) := by decide +kernel
theorem dX8_corners_73 : decode cX8_corners 73 = .ok (.iconst 0, 1) := by decide +kernel
theorem dX8_corners_74 : decode cX8_corners 74 = .ok (.iadd, 1) := by decide +kernel
theorem dX8_corners_75 : decode cX8_corners 75 = .ok (.istore_n 2, 1) := by decide +kernel
theorem dX8_corners_76 : decode cX8_corners 76 = .ok (.iinc 3 1, 3) := by decide +kernel
theorem dX8_corners_79 : decode cX8_corners 79 = .ok (.goto (-64), 3) := by decide +kernel
theorem dX8_corners_82 : decode cX8_corners 82 = .ok (.iload_n 2, 1) := by decide +kernel
theorem dX8_corners_83 : decode cX8_corners 83 = .ok (.ireturn, 1) := by decide +kernel
theorem dX8_append_0 : decode cX8_append 0 = .ok (.iload_n 1, 1) := by decide +kernel
theorem dX8_append_1 : decode cX8_append 1 = .ok (.iconst 0, 1) := by decide +kernel
theorem dX8_append_2 : decode cX8_append 2 = .ok (.bipush 127, 2) := by decide +kernel
theorem dX8_append_4 : decode cX8_append 4 = .ok (.invokestatic 47, 3) := by decide +kernel
theorem dX8_append_7 : decode cX8_append 7 = .ok (.ifCond .ne 6, 3) := by decide +kernel
theorem dX8_append_10 : decode cX8_append 10 = .ok (.ldc 108, 2) := by decide +kernel
theorem dX8_append_12 : decode cX8_append 12 = .ok (.ireturn, 1) := by decide +kernel
theorem dX8_append_13 : decode cX8_append 13 = .ok (.aload_n 0, 1) := by decide +kernel
theorem dX8_append_14 : decode cX8_append 14 = .ok (.getfield 200, 3) := by decide +kernel
theorem dX8_append_17 : decode cX8_append 17 = .ok (.bipush 120, 2) := by decide +kernel
theorem dX8_append_19 : decode cX8_append 19 = .ok (.if_icmp .ne 6, 3) := by decide +kernel
theorem dX8_append_22 : decode cX8_append 22 = .ok (.ldc 109, 2) := by decide +kernel
theorem dX8_append_24 : decode cX8_append 24 = .ok (.ireturn, 1) := by decide +kernel
theorem dX8_append_25 : decode cX8_append 25 = .ok (.aload_n 0, 1) := by decide +kernel
theorem dX8_append_26 : decode cX8_append 26 = .ok (.getfield 29, 3) := by decide +kernel
theorem dX8_append_29 : decode cX8_append 29 = .ok (.aload_n 0, 1) := by decide +kernel
theorem dX8_append_30 : decode cX8_append 30 = .ok (.getfield 200, 3) := by decide +kernel
theorem dX8_append_33 : decode cX8_append 33 = .ok (.iload_n 1, 1) := by decide +kernel
theorem dX8_append_34 : decode cX8_append 34 = .ok (.iastore, 1) := by decide +kernel
theorem dX8_append_35 : decode cX8_append 35 = .ok (.aload_n 0, 1) := by decide +kernel
theorem dX8_append_36 : decode cX8_append 36 = .ok (.dup, 1) := by decide +kernel
theorem dX8_append_37 : decode cX8_append 37 = .ok (.getfield 200, 3) := by decide +kernel
theorem dX8_append_40 : decode cX8_append 40 = .ok (.iconst 1, 1) := by decide +kernel
theorem dX8_append_41 : decode cX8_append 41 = .ok (.iadd, 1) := by decide +kernel
theorem dX8_append_42 : decode cX8_append 42 = .ok (.putfield 200, 3) := by decide +kernel
theorem dX8_append_45 : decode cX8_append 45 = .ok (.aload_n 0, 1) := by decide +kernel
theorem dX8_append_46 : decode cX8_append 46 = .ok (.getfield 200, 3) := by decide +kernel
theorem dX8_append_49 : decode cX8_append 49 = .ok (.ireturn, 1) := by decide +kernel
theorem dX8_clearText_0 : decode cX8_clearText 0 = .ok (.aload_n 0, 1) := by decide +kernel
theorem dX8_clearText_1 : decode cX8_clearText 1 = .ok (.getfield 200, 3) := by decide +kernel
theorem dX8_clearText_4 : decode cX8_clearText 4 = .ok (.istore_n 1, 1) := by decide +kernel
theorem dX8_clearText_5 : decode cX8_clearText 5 = .ok (.aload_n 0, 1) := by decide +kernel
theorem dX8_clearText_6 : decode cX8_clearText 6 = .ok (.iconst 0, 1) := by decide +kernel
theorem dX8_clearText_7 : decode cX8_clearText 7 = .ok (.putfield 200, 3) := by decide +kernel
theorem dX8_clearText_10 : decode cX8_clearText 10 = .ok (.iload_n 1, 1) := by decide +kernel
theorem dX8_clearText_11 : decode cX8_clearText 11 = .ok (.ireturn, 1) := by decide +kernel
theorem dX8_here_0 : decode cX8_here 0 = .ok (.aload_n 0, 1) := by decide +kernel
theorem dX8_here_1 : decode cX8_here 1 = .ok (.getfield 203, 3) := by decide +kernel
theorem dX8_here_4 : decode cX8_here 4 = .ok (.aload_n 0, 1) := by decide +kernel
theorem dX8_here_5 : decode cX8_here 5 = .ok (.getfield 200, 3) := by decide +kernel
theorem dX8_here_8 : decode cX8_here 8 = .ok (.if_icmp .ge 15, 3) := by decide +kernel
theorem dX8_here_11 : decode cX8_here 11 = .ok (.aload_n 0, 1) := by decide +kernel
theorem dX8_here_12 : decode cX8_here 12 = .ok (.getfield 29, 3) := by decide +kernel
theorem dX8_here_15 : decode cX8_here 15 = .ok (.aload_n 0, 1) := by decide +kernel
theorem dX8_here_16 : decode cX8_here 16 = .ok (.getfield 203, 3) := by decide +kernel
theorem dX8_here_19 : decode cX8_here 19 = .ok (.iaload, 1) := by decide +kernel
theorem dX8_here_20 : decode cX8_here 20 = .ok (.goto 4, 3) := by decide +kernel
theorem dX8_here_23 : decode cX8_here 23 = .ok (.iconst (-1), 1) := by decide +kernel
theorem dX8_here_24 : decode cX8_here 24 = .ok (.ireturn, 1) := by decide +kernel
theorem dX8_takes_0 : decode cX8_takes 0 = .ok (.aload_n 0, 1) := by decide +kernel
theorem dX8_takes_1 : decode cX8_takes 1 = .ok (.invokevirtual 206, 3) := by decide +kernel
theorem dX8_takes_4 : decode cX8_takes 4 = .ok (.iload_n 1, 1) := by decide +kernel
theorem dX8_takes_5 : decode cX8_takes 5 = .ok (.if_icmp .ne 7, 3) := by decide +kernel
theorem dX8_takes_8 : decode cX8_takes 8 = .ok (.iconst 1, 1) := by decide +kernel
theorem dX8_takes_9 : decode cX8_takes 9 = .ok (.goto 4, 3) := by decide +kernel
theorem dX8_takes_12 : decode cX8_takes 12 = .ok (.iconst 0, 1) := by decide +kernel
theorem dX8_takes_13 : decode cX8_takes 13 = .ok (.istore_n 2, 1) := by decide +kernel
theorem dX8_takes_14 : decode cX8_takes 14 = .ok (.aload_n 0, 1) := by decide +kernel
theorem dX8_takes_15 : decode cX8_takes 15 = .ok (.dup, 1) := by decide +kernel
theorem dX8_takes_16 : decode cX8_takes 16 = .ok (.getfield 203, 3) := by decide +kernel
theorem dX8_takes_19 : decode cX8_takes 19 = .ok (.iload_n 2, 1) := by decide +kernel
theorem dX8_takes_20 : decode cX8_takes 20 = .ok (.ifCond .eq 7, 3) := by decide +kernel
end
section
theorem dX8_takes_23 : decode cX8_takes 23 = .ok (.iconst 1, 1) := by decide +kernel
theorem dX8_takes_24 : decode cX8_takes 24 = .ok (.goto 4, 3) := by decide +kernel
theorem dX8_takes_27 : decode cX8_takes 27 = .ok (.iconst 0, 1) := by decide +kernel
theorem dX8_takes_28 : decode cX8_takes 28 = .ok (.iadd, 1) := by decide +kernel
theorem dX8_takes_29 : decode cX8_takes 29 = .ok (.putfield 203, 3) := by decide +kernel
theorem dX8_takes_32 : decode cX8_takes 32 = .ok (.iload_n 2, 1) := by decide +kernel
theorem dX8_takes_33 : decode cX8_takes 33 = .ok (.ireturn, 1) := by decide +kernel
theorem dX8_isDigit_0 : decode cX8_isDigit 0 = .ok (.aload_n 0, 1) := by decide +kernel
theorem dX8_isDigit_1 : decode cX8_isDigit 1 = .ok (.invokevirtual 206, 3) := by decide +kernel
theorem dX8_isDigit_4 : decode cX8_isDigit 4 = .ok (.bipush 48, 2) := by decide +kernel
theorem dX8_isDigit_6 : decode cX8_isDigit 6 = .ok (.bipush 57, 2) := by decide +kernel
theorem dX8_isDigit_8 : decode cX8_isDigit 8 = .ok (.invokestatic 47, 3) := by decide +kernel
theorem dX8_isDigit_11 : decode cX8_isDigit 11 = .ok (.ireturn, 1) := by decide +kernel
theorem dX8_number_0 : decode cX8_number 0 = .ok (.aload_n 0, 1) := by decide +kernel
theorem dX8_number_1 : decode cX8_number 1 = .ok (.getfield 203, 3) := by decide +kernel
theorem dX8_number_4 : decode cX8_number 4 = .ok (.istore_n 2, 1) := by decide +kernel
theorem dX8_number_5 : decode cX8_number 5 = .ok (.aload_n 0, 1) := by decide +kernel
theorem dX8_number_6 : decode cX8_number 6 = .ok (.bipush 45, 2) := by decide +kernel
theorem dX8_number_8 : decode cX8_number 8 = .ok (.invokevirtual 210, 3) := by decide +kernel
theorem dX8_number_11 : decode cX8_number 11 = .ok (.istore_n 3, 1) := by decide +kernel
theorem dX8_number_12 : decode cX8_number 12 = .ok (.aload_n 0, 1) := by decide +kernel
theorem dX8_number_13 : decode cX8_number 13 = .ok (.invokevirtual 213, 3) := by decide +kernel
theorem dX8_number_16 : decode cX8_number 16 = .ok (.ifCond .eq 16, 3) := by decide +kernel
theorem dX8_number_19 : decode cX8_number 19 = .ok (.iload_n 3, 1) := by decide +kernel
theorem dX8_number_20 : decode cX8_number 20 = .ok (.ifCond .eq 14, 3) := by decide +kernel
theorem dX8_number_23 : decode cX8_number 23 = .ok (.aload_n 0, 1) := by decide +kernel
theorem dX8_number_24 : decode cX8_number 24 = .ok (.invokevirtual 206, 3) := by decide +kernel
theorem dX8_number_27 : decode cX8_number 27 = .ok (.bipush 48, 2) := by decide +kernel
theorem dX8_number_29 : decode cX8_number 29 = .ok (.if_icmp .ne 5, 3) := by decide +kernel
theorem dX8_number_32 : decode cX8_number 32 = .ok (.iconst 0, 1) := by decide +kernel
theorem dX8_number_33 : decode cX8_number 33 = .ok (.ireturn, 1) := by decide +kernel
theorem dX8_number_34 : decode cX8_number 34 = .ok (.iconst 0, 1) := by decide +kernel
theorem dX8_number_35 : decode cX8_number 35 = .ok (.istore 4, 2) := by decide +kernel
theorem dX8_number_37 : decode cX8_number 37 = .ok (.aload_n 0, 1) := by decide +kernel
theorem dX8_number_38 : decode cX8_number 38 = .ok (.invokevirtual 206, 3) := by decide +kernel
theorem dX8_number_41 : decode cX8_number 41 = .ok (.bipush 48, 2) := by decide +kernel
theorem dX8_number_43 : decode cX8_number 43 = .ok (.if_icmp .ne 16, 3) := by decide +kernel
theorem dX8_number_46 : decode cX8_number 46 = .ok (.aload_n 0, 1) := by decide +kernel
theorem dX8_number_47 : decode cX8_number 47 = .ok (.dup, 1) := by decide +kernel
theorem dX8_number_48 : decode cX8_number 48 = .ok (.getfield 203, 3) := by decide +kernel
theorem dX8_number_51 : decode cX8_number 51 = .ok (.iconst 1, 1) := by decide +kernel
theorem dX8_number_52 : decode cX8_number 52 = .ok (.iadd, 1) := by decide +kernel
theorem dX8_number_53 : decode cX8_number 53 = .ok (.putfield 203, 3) := by decide +kernel
theorem dX8_number_56 : decode cX8_number 56 = .ok (.goto 50, 3) := by decide +kernel
theorem dX8_number_59 : decode cX8_number 59 = .ok (.aload_n 0, 1) := by decide +kernel
theorem dX8_number_60 : decode cX8_number 60 = .ok (.invokevirtual 213, 3) := by decide +kernel
theorem dX8_number_63 : decode cX8_number 63 = .ok (.ifCond .eq 43, 3) := by decide +kernel
theorem dX8_number_66 : decode cX8_number 66 = .ok (.iload 4, 2) := by decide +kernel
theorem dX8_number_68 : decode cX8_number 68 = .ok (.ldc 217, 2) := by decide +kernel
theorem dX8_number_70 : decode cX8_number 70 = .ok (.if_icmp .ge 19, 3) := by decide +kernel
theorem dX8_number_73 : decode cX8_number 73 = .ok (.bipush 10, 2) := by decide +kernel
theorem dX8_number_75 : decode cX8_number 75 = .ok (.iload 4, 2) := by decide +kernel
theorem dX8_number_77 : decode cX8_number 77 = .ok (.imul, 1) := by decide +kernel
theorem dX8_number_78 : decode cX8_number 78 = .ok (.aload_n 0, 1) := by decide +kernel
theorem dX8_number_79 : decode cX8_number 79 = .ok (.invokevirtual 206, 3) := by decide +kernel
theorem dX8_number_82 : decode cX8_number 82 = .ok (.iadd, 1) := by decide +kernel
theorem dX8_number_83 : decode cX8_number 83 = .ok (.bipush 48, 2) := by decide +kernel
theorem dX8_number_85 : decode cX8_number 85 = .ok (.isub, 1) := by decide +kernel
theorem dX8_number_86 : decode cX8_number 86 = .ok (.goto 5, 3) := by decide +kernel
theorem dX8_number_89 : decode cX8_number 89 = .ok (.iload 4, 2) := by decide +kernel
theorem dX8_number_91 : decode cX8_number 91 = .ok (.istore 4, 2) := by decide +kernel
theorem dX8_number_93 : decode cX8_number 93 = .ok (.aload_n 0, 1) := by decide +kernel
theorem dX8_number_94 : decode cX8_number 94 = .ok (.dup, 1) := by decide +kernel
theorem dX8_number_95 : decode cX8_number 95 = .ok (.getfield 203, 3) := by decide +kernel
theorem dX8_number_98 : decode cX8_number 98 = .ok (.iconst 1, 1) := by decide +kernel
theorem dX8_number_99 : decode cX8_number 99 = .ok (.iadd, 1) := by decide +kernel
theorem dX8_number_100 : decode cX8_number 100 = .ok (.putfield 203, 3) := by decide +kernel
theorem dX8_number_103 : decode cX8_number 103 = .ok (.goto (-44), 3) := by decide +kernel
theorem dX8_number_106 : decode cX8_number 106 = .ok (.aload_n 0, 1) := by decide +kernel
theorem dX8_number_107 : decode cX8_number 107 = .ok (.iload_n 3, 1) := by decide +kernel
theorem dX8_number_108 : decode cX8_number 108 = .ok (.ifCond .eq 9, 3) := by decide +kernel
theorem dX8_number_111 : decode cX8_number 111 = .ok (.iload 4, 2) := by decide +kernel
theorem dX8_number_113 : decode cX8_number 113 = .ok (.ineg, 1) := by decide +kernel
theorem dX8_number_114 : decode cX8_number 114 = .ok (.goto 5, 3) := by decide +kernel
theorem dX8_number_117 : decode cX8_number 117 = .ok (.iload 4, 2) := by decide +kernel
theorem dX8_number_119 : decode cX8_number 119 = .ok (.putfield 218, 3) := by decide +kernel
theorem dX8_number_122 : decode cX8_number 122 = .ok (.iload 4, 2) := by decide +kernel
theorem dX8_number_124 : decode cX8_number 124 = .ok (.sipush 200, 3) := by decide +kernel
theorem dX8_number_127 : decode cX8_number 127 = .ok (.if_icmp .gt 21, 3) := by decide +kernel
theorem dX8_number_130 : decode cX8_number 130 = .ok (.aload_n 0, 1) := by decide +kernel
theorem dX8_number_131 : decode cX8_number 131 = .ok (.getfield 218, 3) := by decide +kernel
theorem dX8_number_134 : decode cX8_number 134 = .ok (.iload_n 1, 1) := by decide +kernel
theorem dX8_number_135 : decode cX8_number 135 = .ok (.isub, 1) := by decide +kernel
theorem dX8_number_136 : decode cX8_number 136 = .ok (.sipush (-200), 3) := by decide +kernel
theorem dX8_number_139 : decode cX8_number 139 = .ok (.sipush 200, 3) := by decide +kernel
theorem dX8_number_142 : decode cX8_number 142 = .ok (.invokestatic 47, 3) := by decide +kernel
theorem dX8_number_145 : decode cX8_number 145 = .ok (.ifCond .ne 10, 3) := by decide +kernel
theorem dX8_number_148 : decode cX8_number 148 = .ok (.aload_n 0, 1) := by decide +kernel
theorem dX8_number_149 : decode cX8_number 149 = .ok (.iload_n 2, 1) := by decide +kernel
theorem dX8_number_150 : decode cX8_number 150 = .ok (.putfield 203, 3) := by decide +kernel
theorem dX8_number_153 : decode cX8_number 153 = .ok (.iconst 0, 1) := by decide +kernel
theorem dX8_number_154 : decode cX8_number 154 = .ok (.ireturn, 1) := by decide +kernel
theorem dX8_number_155 : decode cX8_number 155 = .ok (.iconst 1, 1) := by decide +kernel
theorem dX8_number_156 : decode cX8_number 156 = .ok (.ireturn, 1) := by decide +kernel
theorem dX8_position_0 : decode cX8_position 0 = .ok (.aload_n 0, 1) := by decide +kernel
theorem dX8_position_1 : decode cX8_position 1 = .ok (.iload_n 1, 1) := by decide +kernel
theorem dX8_position_2 : decode cX8_position 2 = .ok (.invokevirtual 221, 3) := by decide +kernel
theorem dX8_position_5 : decode cX8_position 5 = .ok (.ifCond .ne 5, 3) := by decide +kernel
theorem dX8_position_8 : decode cX8_position 8 = .ok (.iconst 0, 1) := by decide +kernel
theorem dX8_position_9 : decode cX8_position 9 = .ok (.ireturn, 1) := by decide +kernel
theorem dX8_position_10 : decode cX8_position 10 = .ok (.aload_n 0, 1) := by decide +kernel
theorem dX8_position_11 : decode cX8_position 11 = .ok (.aload_n 0, 1) := by decide +kernel
theorem dX8_position_12 : decode cX8_position 12 = .ok (.getfield 218, 3) := by decide +kernel
theorem dX8_position_15 : decode cX8_position 15 = .ok (.putfield 223, 3) := by decide +kernel
theorem dX8_position_18 : decode cX8_position 18 = .ok (.aload_n 0, 1) := by decide +kernel
theorem dX8_position_19 : decode cX8_position 19 = .ok (.bipush 32, 2) := by decide +kernel
theorem dX8_position_21 : decode cX8_position 21 = .ok (.invokevirtual 210, 3) := by decide +kernel
theorem dX8_position_24 : decode cX8_position 24 = .ok (.ifCond .eq 11, 3) := by decide +kernel
theorem dX8_position_27 : decode cX8_position 27 = .ok (.aload_n 0, 1) := by decide +kernel
theorem dX8_position_28 : decode cX8_position 28 = .ok (.iload_n 2, 1) := by decide +kernel
theorem dX8_position_29 : decode cX8_position 29 = .ok (.invokevirtual 221, 3) := by decide +kernel
theorem dX8_position_32 : decode cX8_position 32 = .ok (.ifCond .ne 5, 3) := by decide +kernel
theorem dX8_position_35 : decode cX8_position 35 = .ok (.iconst 0, 1) := by decide +kernel
theorem dX8_position_36 : decode cX8_position 36 = .ok (.ireturn, 1) := by decide +kernel
theorem dX8_position_37 : decode cX8_position 37 = .ok (.aload_n 0, 1) := by decide +kernel
theorem dX8_position_38 : decode cX8_position 38 = .ok (.aload_n 0, 1) := by decide +kernel
theorem dX8_position_39 : decode cX8_position 39 = .ok (.getfield 218, 3) := by decide +kernel
theorem dX8_position_42 : decode cX8_position 42 = .ok (.putfield 226, 3) := by decide +kernel
theorem dX8_position_45 : decode cX8_position 45 = .ok (.iconst 1, 1) := by decide +kernel
theorem dX8_position_46 : decode cX8_position 46 = .ok (.ireturn, 1) := by decide +kernel
theorem dX8_tells_0 : decode cX8_tells 0 = .ok (.iconst 0, 1) := by decide +kernel
theorem dX8_tells_1 : decode cX8_tells 1 = .ok (.istore_n 3, 1) := by decide +kernel
theorem dX8_tells_2 : decode cX8_tells 2 = .ok (.iload_n 3, 1) := by decide +kernel
theorem dX8_tells_3 : decode cX8_tells 3 = .ok (.bipush 8, 2) := by decide +kernel
theorem dX8_tells_5 : decode cX8_tells 5 = .ok (.if_icmp .ge 24, 3) := by decide +kernel
theorem dX8_tells_8 : decode cX8_tells 8 = .ok (.aload_n 0, 1) := by decide +kernel
theorem dX8_tells_9 : decode cX8_tells 9 = .ok (.getfield 41, 3) := by decide +kernel
theorem dX8_tells_12 : decode cX8_tells 12 = .ok (.bipush 8, 2) := by decide +kernel
theorem dX8_tells_14 : decode cX8_tells 14 = .ok (.aload_n 0, 1) := by decide +kernel
theorem dX8_tells_15 : decode cX8_tells 15 = .ok (.getfield 229, 3) := by decide +kernel
theorem dX8_tells_18 : decode cX8_tells 18 = .ok (.imul, 1) := by decide +kernel
theorem dX8_tells_19 : decode cX8_tells 19 = .ok (.iload_n 3, 1) := by decide +kernel
theorem dX8_tells_20 : decode cX8_tells 20 = .ok (.iadd, 1) := by decide +kernel
theorem dX8_tells_21 : decode cX8_tells 21 = .ok (.iconst 0, 1) := by decide +kernel
theorem dX8_tells_22 : decode cX8_tells 22 = .ok (.iastore, 1) := by decide +kernel
theorem dX8_tells_23 : decode cX8_tells 23 = .ok (.iinc 3 1, 3) := by decide +kernel
theorem dX8_tells_26 : decode cX8_tells 26 = .ok (.goto (-24), 3) := by decide +kernel
theorem dX8_tells_29 : decode cX8_tells 29 = .ok (.aload_n 0, 1) := by decide +kernel
theorem dX8_tells_30 : decode cX8_tells 30 = .ok (.getfield 41, 3) := by decide +kernel
theorem dX8_tells_33 : decode cX8_tells 33 = .ok (.bipush 8, 2) := by decide +kernel
theorem dX8_tells_35 : decode cX8_tells 35 = .ok (.aload_n 0, 1) := by decide +kernel
theorem dX8_tells_36 : decode cX8_tells 36 = .ok (.getfield 229, 3) := by decide +kernel
theorem dX8_tells_39 : decode cX8_tells 39 = .ok (.imul, 1) := by decide +kernel
theorem dX8_tells_40 : decode cX8_tells 40 = .ok (.iload_n 1, 1) := by decide +kernel
theorem dX8_tells_41 : decode cX8_tells 41 = .ok (.iastore, 1) := by decide +kernel
theorem dX8_tells_42 : decode cX8_tells 42 = .ok (.aload_n 0, 1) := by decide +kernel
theorem dX8_tells_43 : decode cX8_tells 43 = .ok (.getfield 41, 3) := by decide +kernel
theorem dX8_tells_46 : decode cX8_tells 46 = .ok (.bipush 8, 2) := by decide +kernel
theorem dX8_tells_48 : decode cX8_tells 48 = .ok (.aload_n 0, 1) := by decide +kernel
theorem dX8_tells_49 : decode cX8_tells 49 = .ok (.getfield 229, 3) := by decide +kernel
theorem dX8_tells_52 : decode cX8_tells 52 = .ok (.imul, 1) := by decide +kernel
theorem dX8_tells_53 : decode cX8_tells 53 = .ok (.iconst 1, 1) := by decide +kernel
theorem dX8_tells_54 : decode cX8_tells 54 = .ok (.iadd, 1) := by decide +kernel
theorem dX8_tells_55 : decode cX8_tells 55 = .ok (.iload_n 2, 1) := by decide +kernel
theorem dX8_tells_56 : decode cX8_tells 56 = .ok (.iastore, 1) := by decide +kernel
theorem dX8_tells_57 : decode cX8_tells 57 = .ok (.aload_n 0, 1) := by decide +kernel
theorem dX8_tells_58 : decode cX8_tells 58 = .ok (.dup, 1) := by decide +kernel
theorem dX8_tells_59 : decode cX8_tells 59 = .ok (.getfield 229, 3) := by decide +kernel
theorem dX8_tells_62 : decode cX8_tells 62 = .ok (.iconst 1, 1) := by decide +kernel
theorem dX8_tells_63 : decode cX8_tells 63 = .ok (.iadd, 1) := by decide +kernel
theorem dX8_tells_64 : decode cX8_tells 64 = .ok (.putfield 229, 3) := by decide +kernel
theorem dX8_tells_67 : decode cX8_tells 67 = .ok (.return_, 1) := by decide +kernel
theorem dX8_curve_0 : decode cX8_curve 0 = .ok (.bipush 8, 2) := by decide +kernel
theorem dX8_curve_2 : decode cX8_curve 2 = .ok (.aload_n 0, 1) := by decide +kernel
theorem dX8_curve_3 : decode cX8_curve 3 = .ok (.getfield 229, 3) := by decide +kernel
theorem dX8_curve_6 : decode cX8_curve 6 = .ok (.iconst 1, 1) := by decide +kernel
theorem dX8_curve_7 : decode cX8_curve 7 = .ok (.isub, 1) := by decide +kernel
theorem dX8_curve_8 : decode cX8_curve 8 = .ok (.imul, 1) := by decide +kernel
theorem dX8_curve_9 : decode cX8_curve 9 = .ok (.istore_n 1, 1) := by decide +kernel
theorem dX8_curve_10 : decode cX8_curve 10 = .ok (.aload_n 0, 1) := by decide +kernel
theorem dX8_curve_11 : decode cX8_curve 11 = .ok (.aload_n 0, 1) := by decide +kernel
theorem dX8_curve_12 : decode cX8_curve 12 = .ok (.getfield 41, 3) := by decide +kernel
theorem dX8_curve_15 : decode cX8_curve 15 = .ok (.iload_n 1, 1) := by decide +kernel
theorem dX8_curve_16 : decode cX8_curve 16 = .ok (.iaload, 1) := by decide +kernel
theorem dX8_curve_17 : decode cX8_curve 17 = .ok (.aload_n 0, 1) := by decide +kernel
theorem dX8_curve_18 : decode cX8_curve 18 = .ok (.getfield 41, 3) := by decide +kernel
theorem dX8_curve_21 : decode cX8_curve 21 = .ok (.iload_n 1, 1) := by decide +kernel
theorem dX8_curve_22 : decode cX8_curve 22 = .ok (.iconst 1, 1) := by decide +kernel
theorem dX8_curve_23 : decode cX8_curve 23 = .ok (.iadd, 1) := by decide +kernel
theorem dX8_curve_24 : decode cX8_curve 24 = .ok (.iaload, 1) := by decide +kernel
theorem dX8_curve_25 : decode cX8_curve 25 = .ok (.invokevirtual 232, 3) := by decide +kernel
theorem dX8_curve_28 : decode cX8_curve 28 = .ok (.ifCond .ne 5, 3) := by decide +kernel
theorem dX8_curve_31 : decode cX8_curve 31 = .ok (.iconst 0, 1) := by decide +kernel
theorem dX8_curve_32 : decode cX8_curve 32 = .ok (.ireturn, 1) := by decide +kernel
theorem dX8_curve_33 : decode cX8_curve 33 = .ok (.aload_n 0, 1) := by decide +kernel
theorem dX8_curve_34 : decode cX8_curve 34 = .ok (.getfield 41, 3) := by decide +kernel
theorem dX8_curve_37 : decode cX8_curve 37 = .ok (.iload_n 1, 1) := by decide +kernel
theorem dX8_curve_38 : decode cX8_curve 38 = .ok (.iconst 4, 1) := by decide +kernel
theorem dX8_curve_39 : decode cX8_curve 39 = .ok (.iadd, 1) := by decide +kernel
theorem dX8_curve_40 : decode cX8_curve 40 = .ok (.aload_n 0, 1) := by decide +kernel
theorem dX8_curve_41 : decode cX8_curve 41 = .ok (.getfield 223, 3) := by decide +kernel
theorem dX8_curve_44 : decode cX8_curve 44 = .ok (.aload_n 0, 1) := by decide +kernel
theorem dX8_curve_45 : decode cX8_curve 45 = .ok (.getfield 41, 3) := by decide +kernel
theorem dX8_curve_48 : decode cX8_curve 48 = .ok (.iload_n 1, 1) := by decide +kernel
theorem dX8_curve_49 : decode cX8_curve 49 = .ok (.iaload, 1) := by decide +kernel
theorem dX8_curve_50 : decode cX8_curve 50 = .ok (.isub, 1) := by decide +kernel
theorem dX8_curve_51 : decode cX8_curve 51 = .ok (.iastore, 1) := by decide +kernel
theorem dX8_curve_52 : decode cX8_curve 52 = .ok (.aload_n 0, 1) := by decide +kernel
theorem dX8_curve_53 : decode cX8_curve 53 = .ok (.getfield 41, 3) := by decide +kernel
theorem dX8_curve_56 : decode cX8_curve 56 = .ok (.iload_n 1, 1) := by decide +kernel
theorem dX8_curve_57 : decode cX8_curve 57 = .ok (.iconst 4, 1) := by decide +kernel
theorem dX8_curve_58 : decode cX8_curve 58 = .ok (.iadd, 1) := by decide +kernel
theorem dX8_curve_59 : decode cX8_curve 59 = .ok (.iconst 1, 1) := by decide +kernel
theorem dX8_curve_60 : decode cX8_curve 60 = .ok (.iadd, 1) := by decide +kernel
theorem dX8_curve_61 : decode cX8_curve 61 = .ok (.aload_n 0, 1) := by decide +kernel
theorem dX8_curve_62 : decode cX8_curve 62 = .ok (.getfield 226, 3) := by decide +kernel
theorem dX8_curve_65 : decode cX8_curve 65 = .ok (.aload_n 0, 1) := by decide +kernel
theorem dX8_curve_66 : decode cX8_curve 66 = .ok (.getfield 41, 3) := by decide +kernel
theorem dX8_curve_69 : decode cX8_curve 69 = .ok (.iload_n 1, 1) := by decide +kernel
theorem dX8_curve_70 : decode cX8_curve 70 = .ok (.iconst 1, 1) := by decide +kernel
theorem dX8_curve_71 : decode cX8_curve 71 = .ok (.iadd, 1) := by decide +kernel
theorem dX8_curve_72 : decode cX8_curve 72 = .ok (.iaload, 1) := by decide +kernel
theorem dX8_curve_73 : decode cX8_curve 73 = .ok (.isub, 1) := by decide +kernel
theorem dX8_curve_74 : decode cX8_curve 74 = .ok (.iastore, 1) := by decide +kernel
theorem dX8_curve_75 : decode cX8_curve 75 = .ok (.aload_n 0, 1) := by decide +kernel
theorem dX8_curve_76 : decode cX8_curve 76 = .ok (.bipush 32, 2) := by decide +kernel
theorem dX8_curve_78 : decode cX8_curve 78 = .ok (.invokevirtual 210, 3) := by decide +kernel
theorem dX8_curve_81 : decode cX8_curve 81 = .ok (.ifCond .eq 12, 3) := by decide +kernel
theorem dX8_curve_84 : decode cX8_curve 84 = .ok (.aload_n 0, 1) := by decide +kernel
theorem dX8_curve_85 : decode cX8_curve 85 = .ok (.iconst 0, 1) := by decide +kernel
theorem dX8_curve_86 : decode cX8_curve 86 = .ok (.iconst 0, 1) := by decide +kernel
theorem dX8_curve_87 : decode cX8_curve 87 = .ok (.invokevirtual 232, 3) := by decide +kernel
theorem dX8_curve_90 : decode cX8_curve 90 = .ok (.ifCond .ne 5, 3) := by decide +kernel
theorem dX8_curve_93 : decode cX8_curve 93 = .ok (.iconst 0, 1) := by decide +kernel
theorem dX8_curve_94 : decode cX8_curve 94 = .ok (.ireturn, 1) := by decide +kernel
theorem dX8_curve_95 : decode cX8_curve 95 = .ok (.aload_n 0, 1) := by decide +kernel
theorem dX8_curve_96 : decode cX8_curve 96 = .ok (.getfield 223, 3) := by decide +kernel
theorem dX8_curve_99 : decode cX8_curve 99 = .ok (.istore_n 2, 1) := by decide +kernel
theorem dX8_curve_100 : decode cX8_curve 100 = .ok (.aload_n 0, 1) := by decide +kernel
theorem dX8_curve_101 : decode cX8_curve 101 = .ok (.getfield 226, 3) := by decide +kernel
theorem dX8_curve_104 : decode cX8_curve 104 = .ok (.istore_n 3, 1) := by decide +kernel
theorem dX8_curve_105 : decode cX8_curve 105 = .ok (.aload_n 0, 1) := by decide +kernel
theorem dX8_curve_106 : decode cX8_curve 106 = .ok (.bipush 32, 2) := by decide +kernel
theorem dX8_curve_108 : decode cX8_curve 108 = .ok (.invokevirtual 210, 3) := by decide +kernel
theorem dX8_curve_111 : decode cX8_curve 111 = .ok (.ifCond .eq 12, 3) := by decide +kernel
theorem dX8_curve_114 : decode cX8_curve 114 = .ok (.aload_n 0, 1) := by decide +kernel
theorem dX8_curve_115 : decode cX8_curve 115 = .ok (.iload_n 2, 1) := by decide +kernel
theorem dX8_curve_116 : decode cX8_curve 116 = .ok (.iload_n 3, 1) := by decide +kernel
theorem dX8_curve_117 : decode cX8_curve 117 = .ok (.invokevirtual 232, 3) := by decide +kernel
theorem dX8_curve_120 : decode cX8_curve 120 = .ok (.ifCond .ne 5, 3) := by decide +kernel
theorem dX8_curve_123 : decode cX8_curve 123 = .ok (.iconst 0, 1) := by decide +kernel
theorem dX8_curve_124 : decode cX8_curve 124 = .ok (.ireturn, 1) := by decide +kernel
theorem dX8_curve_125 : decode cX8_curve 125 = .ok (.aload_n 0, 1) := by decide +kernel
theorem dX8_curve_126 : decode cX8_curve 126 = .ok (.aload_n 0, 1) := by decide +kernel
theorem dX8_curve_127 : decode cX8_curve 127 = .ok (.getfield 223, 3) := by decide +kernel
theorem dX8_curve_130 : decode cX8_curve 130 = .ok (.aload_n 0, 1) := by decide +kernel
theorem dX8_curve_131 : decode cX8_curve 131 = .ok (.getfield 226, 3) := by decide +kernel
theorem dX8_curve_134 : decode cX8_curve 134 = .ok (.invokevirtual 235, 3) := by decide +kernel
theorem dX8_curve_137 : decode cX8_curve 137 = .ok (.aload_n 0, 1) := by decide +kernel
theorem dX8_curve_138 : decode cX8_curve 138 = .ok (.getfield 41, 3) := by decide +kernel
theorem dX8_curve_141 : decode cX8_curve 141 = .ok (.bipush 8, 2) := by decide +kernel
theorem dX8_curve_143 : decode cX8_curve 143 = .ok (.aload_n 0, 1) := by decide +kernel
theorem dX8_curve_144 : decode cX8_curve 144 = .ok (.getfield 229, 3) := by decide +kernel
theorem dX8_curve_147 : decode cX8_curve 147 = .ok (.iconst 1, 1) := by decide +kernel
theorem dX8_curve_148 : decode cX8_curve 148 = .ok (.isub, 1) := by decide +kernel
theorem dX8_curve_149 : decode cX8_curve 149 = .ok (.imul, 1) := by decide +kernel
theorem dX8_curve_150 : decode cX8_curve 150 = .ok (.iconst 2, 1) := by decide +kernel
theorem dX8_curve_151 : decode cX8_curve 151 = .ok (.iadd, 1) := by decide +kernel
theorem dX8_curve_152 : decode cX8_curve 152 = .ok (.iload_n 2, 1) := by decide +kernel
theorem dX8_curve_153 : decode cX8_curve 153 = .ok (.aload_n 0, 1) := by decide +kernel
theorem dX8_curve_154 : decode cX8_curve 154 = .ok (.getfield 223, 3) := by decide +kernel
theorem dX8_curve_157 : decode cX8_curve 157 = .ok (.isub, 1) := by decide +kernel
theorem dX8_curve_158 : decode cX8_curve 158 = .ok (.iastore, 1) := by decide +kernel
theorem dX8_curve_159 : decode cX8_curve 159 = .ok (.aload_n 0, 1) := by decide +kernel
theorem dX8_curve_160 : decode cX8_curve 160 = .ok (.getfield 41, 3) := by decide +kernel
theorem dX8_curve_163 : decode cX8_curve 163 = .ok (.bipush 8, 2) := by decide +kernel
theorem dX8_curve_165 : decode cX8_curve 165 = .ok (.aload_n 0, 1) := by decide +kernel
theorem dX8_curve_166 : decode cX8_curve 166 = .ok (.getfield 229, 3) := by decide +kernel
theorem dX8_curve_169 : decode cX8_curve 169 = .ok (.iconst 1, 1) := by decide +kernel
theorem dX8_curve_170 : decode cX8_curve 170 = .ok (.isub, 1) := by decide +kernel
theorem dX8_curve_171 : decode cX8_curve 171 = .ok (.imul, 1) := by decide +kernel
theorem dX8_curve_172 : decode cX8_curve 172 = .ok (.iconst 2, 1) := by decide +kernel
theorem dX8_curve_173 : decode cX8_curve 173 = .ok (.iadd, 1) := by decide +kernel
theorem dX8_curve_174 : decode cX8_curve 174 = .ok (.iconst 1, 1) := by decide +kernel
theorem dX8_curve_175 : decode cX8_curve 175 = .ok (.iadd, 1) := by decide +kernel
theorem dX8_curve_176 : decode cX8_curve 176 = .ok (.iload_n 3, 1) := by decide +kernel
theorem dX8_curve_177 : decode cX8_curve 177 = .ok (.aload_n 0, 1) := by decide +kernel
theorem dX8_curve_178 : decode cX8_curve 178 = .ok (.getfield 226, 3) := by decide +kernel
theorem dX8_curve_181 : decode cX8_curve 181 = .ok (.isub, 1) := by decide +kernel
theorem dX8_curve_182 : decode cX8_curve 182 = .ok (.iastore, 1) := by decide +kernel
theorem dX8_curve_183 : decode cX8_curve 183 = .ok (.iconst 1, 1) := by decide +kernel
theorem dX8_curve_184 : decode cX8_curve 184 = .ok (.ireturn, 1) := by decide +kernel
theorem dX8_isNext_0 : decode cX8_isNext 0 = .ok (.aload_n 0, 1) := by decide +kernel
theorem dX8_isNext_1 : decode cX8_isNext 1 = .ok (.invokevirtual 206, 3) := by decide +kernel
theorem dX8_isNext_4 : decode cX8_isNext 4 = .ok (.istore_n 1, 1) := by decide +kernel
theorem dX8_isNext_5 : decode cX8_isNext 5 = .ok (.iload_n 1, 1) := by decide +kernel
theorem dX8_isNext_6 : decode cX8_isNext 6 = .ok (.bipush 76, 2) := by decide +kernel
theorem dX8_isNext_8 : decode cX8_isNext 8 = .ok (.if_icmp .eq 9, 3) := by decide +kernel
theorem dX8_isNext_11 : decode cX8_isNext 11 = .ok (.iload_n 1, 1) := by decide +kernel
theorem dX8_isNext_12 : decode cX8_isNext 12 = .ok (.bipush 67, 2) := by decide +kernel
theorem dX8_isNext_14 : decode cX8_isNext 14 = .ok (.if_icmp .ne 16, 3) := by decide +kernel
theorem dX8_isNext_17 : decode cX8_isNext 17 = .ok (.aload_n 0, 1) := by decide +kernel
theorem dX8_isNext_18 : decode cX8_isNext 18 = .ok (.getfield 229, 3) := by decide +kernel
theorem dX8_isNext_21 : decode cX8_isNext 21 = .ok (.bipush 12, 2) := by decide +kernel
theorem dX8_isNext_23 : decode cX8_isNext 23 = .ok (.if_icmp .ge 7, 3) := by decide +kernel
theorem dX8_isNext_26 : decode cX8_isNext 26 = .ok (.iconst 1, 1) := by decide +kernel
theorem dX8_isNext_27 : decode cX8_isNext 27 = .ok (.goto 4, 3) := by decide +kernel
theorem dX8_isNext_30 : decode cX8_isNext 30 = .ok (.iconst 0, 1) := by decide +kernel
theorem dX8_isNext_31 : decode cX8_isNext 31 = .ok (.istore_n 2, 1) := by decide +kernel
theorem dX8_isNext_32 : decode cX8_isNext 32 = .ok (.iload_n 2, 1) := by decide +kernel
theorem dX8_isNext_33 : decode cX8_isNext 33 = .ok (.ifCond .ne 19, 3) := by decide +kernel
theorem dX8_isNext_36 : decode cX8_isNext 36 = .ok (.iload_n 1, 1) := by decide +kernel
theorem dX8_isNext_37 : decode cX8_isNext 37 = .ok (.bipush 90, 2) := by decide +kernel
theorem dX8_isNext_39 : decode cX8_isNext 39 = .ok (.if_icmp .ne 11, 3) := by decide +kernel
theorem dX8_isNext_42 : decode cX8_isNext 42 = .ok (.aload_n 0, 1) := by decide +kernel
theorem dX8_isNext_43 : decode cX8_isNext 43 = .ok (.getfield 229, 3) := by decide +kernel
theorem dX8_isNext_46 : decode cX8_isNext 46 = .ok (.iconst 2, 1) := by decide +kernel
theorem dX8_isNext_47 : decode cX8_isNext 47 = .ok (.if_icmp .ge 5, 3) := by decide +kernel
theorem dX8_isNext_50 : decode cX8_isNext 50 = .ok (.iconst 0, 1) := by decide +kernel
theorem dX8_isNext_51 : decode cX8_isNext 51 = .ok (.ireturn, 1) := by decide +kernel
theorem dX8_isNext_52 : decode cX8_isNext 52 = .ok (.aload_n 0, 1) := by decide +kernel
theorem dX8_isNext_53 : decode cX8_isNext 53 = .ok (.dup, 1) := by decide +kernel
theorem dX8_isNext_54 : decode cX8_isNext 54 = .ok (.getfield 203, 3) := by decide +kernel
theorem dX8_isNext_57 : decode cX8_isNext 57 = .ok (.iconst 1, 1) := by decide +kernel
theorem dX8_isNext_58 : decode cX8_isNext 58 = .ok (.iadd, 1) := by decide +kernel
theorem dX8_isNext_59 : decode cX8_isNext 59 = .ok (.putfield 203, 3) := by decide +kernel
theorem dX8_isNext_62 : decode cX8_isNext 62 = .ok (.iload_n 1, 1) := by decide +kernel
theorem dX8_isNext_63 : decode cX8_isNext 63 = .ok (.bipush 90, 2) := by decide +kernel
theorem dX8_isNext_65 : decode cX8_isNext 65 = .ok (.if_icmp .ne 10, 3) := by decide +kernel
theorem dX8_isNext_68 : decode cX8_isNext 68 = .ok (.aload_n 0, 1) := by decide +kernel
theorem dX8_isNext_69 : decode cX8_isNext 69 = .ok (.iconst 1, 1) := by decide +kernel
theorem dX8_isNext_70 : decode cX8_isNext 70 = .ok (.putfield 238, 3) := by decide +kernel
theorem dX8_isNext_73 : decode cX8_isNext 73 = .ok (.iconst 1, 1) := by decide +kernel
theorem dX8_isNext_74 : decode cX8_isNext 74 = .ok (.ireturn, 1) := by decide +kernel
theorem dX8_isNext_75 : decode cX8_isNext 75 = .ok (.iload_n 1, 1) := by decide +kernel
theorem dX8_isNext_76 : decode cX8_isNext 76 = .ok (.bipush 67, 2) := by decide +kernel
theorem dX8_isNext_78 : decode cX8_isNext 78 = .ok (.if_icmp .ne 8, 3) := by decide +kernel
theorem dX8_isNext_81 : decode cX8_isNext 81 = .ok (.aload_n 0, 1) := by decide +kernel
theorem dX8_isNext_82 : decode cX8_isNext 82 = .ok (.invokevirtual 242, 3) := by decide +kernel
theorem dX8_isNext_85 : decode cX8_isNext 85 = .ok (.ireturn, 1) := by decide +kernel
theorem dX8_isNext_86 : decode cX8_isNext 86 = .ok (.aload_n 0, 1) := by decide +kernel
theorem dX8_isNext_87 : decode cX8_isNext 87 = .ok (.iconst 0, 1) := by decide +kernel
theorem dX8_isNext_88 : decode cX8_isNext 88 = .ok (.iconst 0, 1) := by decide +kernel
theorem dX8_isNext_89 : decode cX8_isNext 89 = .ok (.invokevirtual 232, 3) := by decide +kernel
theorem dX8_isNext_92 : decode cX8_isNext 92 = .ok (.istore_n 3, 1) := by decide +kernel
theorem dX8_isNext_93 : decode cX8_isNext 93 = .ok (.iload_n 3, 1) := by decide +kernel
theorem dX8_isNext_94 : decode cX8_isNext 94 = .ok (.ifCond .eq 15, 3) := by decide +kernel
theorem dX8_isNext_97 : decode cX8_isNext 97 = .ok (.aload_n 0, 1) := by decide +kernel
theorem dX8_isNext_98 : decode cX8_isNext 98 = .ok (.aload_n 0, 1) := by decide +kernel
theorem dX8_isNext_99 : decode cX8_isNext 99 = .ok (.getfield 223, 3) := by decide +kernel
theorem dX8_isNext_102 : decode cX8_isNext 102 = .ok (.aload_n 0, 1) := by decide +kernel
theorem dX8_isNext_103 : decode cX8_isNext 103 = .ok (.getfield 226, 3) := by decide +kernel
theorem dX8_isNext_106 : decode cX8_isNext 106 = .ok (.invokevirtual 235, 3) := by decide +kernel
theorem dX8_isNext_109 : decode cX8_isNext 109 = .ok (.iload_n 3, 1) := by decide +kernel
theorem dX8_isNext_110 : decode cX8_isNext 110 = .ok (.ireturn, 1) := by decide +kernel
theorem dX8_isText_0 : decode cX8_isText 0 = .ok (.aload_n 0, 1) := by decide +kernel
theorem dX8_isText_1 : decode cX8_isText 1 = .ok (.iconst 0, 1) := by decide +kernel
theorem dX8_isText_2 : decode cX8_isText 2 = .ok (.putfield 203, 3) := by decide +kernel
theorem dX8_isText_5 : decode cX8_isText 5 = .ok (.aload_n 0, 1) := by decide +kernel
theorem dX8_isText_6 : decode cX8_isText 6 = .ok (.iconst 0, 1) := by decide +kernel
theorem dX8_isText_7 : decode cX8_isText 7 = .ok (.putfield 229, 3) := by decide +kernel
theorem dX8_isText_10 : decode cX8_isText 10 = .ok (.aload_n 0, 1) := by decide +kernel
theorem dX8_isText_11 : decode cX8_isText 11 = .ok (.iconst 0, 1) := by decide +kernel
theorem dX8_isText_12 : decode cX8_isText 12 = .ok (.putfield 238, 3) := by decide +kernel
theorem dX8_isText_15 : decode cX8_isText 15 = .ok (.aload_n 0, 1) := by decide +kernel
theorem dX8_isText_16 : decode cX8_isText 16 = .ok (.bipush 77, 2) := by decide +kernel
theorem dX8_isText_18 : decode cX8_isText 18 = .ok (.invokevirtual 210, 3) := by decide +kernel
theorem dX8_isText_21 : decode cX8_isText 21 = .ok (.ifCond .eq 12, 3) := by decide +kernel
theorem dX8_isText_24 : decode cX8_isText 24 = .ok (.aload_n 0, 1) := by decide +kernel
theorem dX8_isText_25 : decode cX8_isText 25 = .ok (.iconst 0, 1) := by decide +kernel
theorem dX8_isText_26 : decode cX8_isText 26 = .ok (.iconst 0, 1) := by decide +kernel
theorem dX8_isText_27 : decode cX8_isText 27 = .ok (.invokevirtual 232, 3) := by decide +kernel
theorem dX8_isText_30 : decode cX8_isText 30 = .ok (.ifCond .ne 5, 3) := by decide +kernel
theorem dX8_isText_33 : decode cX8_isText 33 = .ok (.iconst 0, 1) := by decide +kernel
theorem dX8_isText_34 : decode cX8_isText 34 = .ok (.ireturn, 1) := by decide +kernel
theorem dX8_isText_35 : decode cX8_isText 35 = .ok (.aload_n 0, 1) := by decide +kernel
theorem dX8_isText_36 : decode cX8_isText 36 = .ok (.aload_n 0, 1) := by decide +kernel
theorem dX8_isText_37 : decode cX8_isText 37 = .ok (.getfield 223, 3) := by decide +kernel
theorem dX8_isText_40 : decode cX8_isText 40 = .ok (.aload_n 0, 1) := by decide +kernel
theorem dX8_isText_41 : decode cX8_isText 41 = .ok (.getfield 226, 3) := by decide +kernel
theorem dX8_isText_44 : decode cX8_isText 44 = .ok (.invokevirtual 235, 3) := by decide +kernel
theorem dX8_isText_47 : decode cX8_isText 47 = .ok (.iconst 1, 1) := by decide +kernel
theorem dX8_isText_48 : decode cX8_isText 48 = .ok (.istore_n 1, 1) := by decide +kernel
theorem dX8_isText_49 : decode cX8_isText 49 = .ok (.iload_n 1, 1) := by decide +kernel
theorem dX8_isText_50 : decode cX8_isText 50 = .ok (.ifCond .eq 37, 3) := by decide +kernel
theorem dX8_isText_53 : decode cX8_isText 53 = .ok (.aload_n 0, 1) := by decide +kernel
theorem dX8_isText_54 : decode cX8_isText 54 = .ok (.getfield 203, 3) := by decide +kernel
theorem dX8_isText_57 : decode cX8_isText 57 = .ok (.aload_n 0, 1) := by decide +kernel
theorem dX8_isText_58 : decode cX8_isText 58 = .ok (.getfield 200, 3) := by decide +kernel
theorem dX8_isText_61 : decode cX8_isText 61 = .ok (.if_icmp .ge 26, 3) := by decide +kernel
theorem dX8_isText_64 : decode cX8_isText 64 = .ok (.aload_n 0, 1) := by decide +kernel
theorem dX8_isText_65 : decode cX8_isText 65 = .ok (.getfield 238, 3) := by decide +kernel
theorem dX8_isText_68 : decode cX8_isText 68 = .ok (.ifCond .ne 14, 3) := by decide +kernel
theorem dX8_isText_71 : decode cX8_isText 71 = .ok (.aload_n 0, 1) := by decide +kernel
theorem dX8_isText_72 : decode cX8_isText 72 = .ok (.invokevirtual 245, 3) := by decide +kernel
theorem dX8_isText_75 : decode cX8_isText 75 = .ok (.ifCond .eq 7, 3) := by decide +kernel
theorem dX8_isText_78 : decode cX8_isText 78 = .ok (.iconst 1, 1) := by decide +kernel
theorem dX8_isText_79 : decode cX8_isText 79 = .ok (.goto 4, 3) := by decide +kernel
theorem dX8_isText_82 : decode cX8_isText 82 = .ok (.iconst 0, 1) := by decide +kernel
theorem dX8_isText_83 : decode cX8_isText 83 = .ok (.istore_n 1, 1) := by decide +kernel
theorem dX8_isText_84 : decode cX8_isText 84 = .ok (.goto (-35), 3) := by decide +kernel
theorem dX8_isText_87 : decode cX8_isText 87 = .ok (.iload_n 1, 1) := by decide +kernel
theorem dX8_isText_88 : decode cX8_isText 88 = .ok (.ireturn, 1) := by decide +kernel
theorem dX8_faultPosition_0 : decode cX8_faultPosition 0 = .ok (.aload_n 0, 1) := by decide +kernel
theorem dX8_faultPosition_1 : decode cX8_faultPosition 1 = .ok (.invokevirtual 248, 3) := by decide +kernel
theorem dX8_faultPosition_4 : decode cX8_faultPosition 4 = .ok (.ifCond .eq 8, 3) := by decide +kernel
theorem dX8_faultPosition_7 : decode cX8_faultPosition 7 = .ok (.ldc 184, 2) := by decide +kernel
theorem dX8_faultPosition_9 : decode cX8_faultPosition 9 = .ok (.goto 7, 3) := by decide +kernel
theorem dX8_faultPosition_12 : decode cX8_faultPosition 12 = .ok (.aload_n 0, 1) := by decide +kernel
theorem dX8_faultPosition_13 : decode cX8_faultPosition 13 = .ok (.getfield 203, 3) := by decide +kernel
theorem dX8_faultPosition_16 : decode cX8_faultPosition 16 = .ok (.ireturn, 1) := by decide +kernel
theorem dX8_read_0 : decode cX8_read 0 = .ok (.aload_n 0, 1) := by decide +kernel
theorem dX8_read_1 : decode cX8_read 1 = .ok (.invokevirtual 248, 3) := by decide +kernel
theorem dX8_read_4 : decode cX8_read 4 = .ok (.ifCond .ne 6, 3) := by decide +kernel
theorem dX8_read_7 : decode cX8_read 7 = .ok (.ldc 122, 2) := by decide +kernel
theorem dX8_read_9 : decode cX8_read 9 = .ok (.ireturn, 1) := by decide +kernel
theorem dX8_read_10 : decode cX8_read 10 = .ok (.aload_n 0, 1) := by decide +kernel
theorem dX8_read_11 : decode cX8_read 11 = .ok (.getfield 7, 3) := by decide +kernel
theorem dX8_read_14 : decode cX8_read 14 = .ok (.iconst 0, 1) := by decide +kernel
theorem dX8_read_15 : decode cX8_read 15 = .ok (.iaload, 1) := by decide +kernel
theorem dX8_read_16 : decode cX8_read 16 = .ok (.bipush 6, 2) := by decide +kernel
theorem dX8_read_18 : decode cX8_read 18 = .ok (.if_icmp .ne 6, 3) := by decide +kernel
theorem dX8_read_21 : decode cX8_read 21 = .ok (.ldc 109, 2) := by decide +kernel
theorem dX8_read_23 : decode cX8_read 23 = .ok (.ireturn, 1) := by decide +kernel
theorem dX8_read_24 : decode cX8_read 24 = .ok (.aload_n 0, 1) := by decide +kernel
theorem dX8_read_25 : decode cX8_read 25 = .ok (.invokevirtual 110, 3) := by decide +kernel
theorem dX8_read_28 : decode cX8_read 28 = .ok (.aload_n 0, 1) := by decide +kernel
theorem dX8_read_29 : decode cX8_read 29 = .ok (.getfield 7, 3) := by decide +kernel
theorem dX8_read_32 : decode cX8_read 32 = .ok (.iconst 0, 1) := by decide +kernel
theorem dX8_read_33 : decode cX8_read 33 = .ok (.iaload, 1) := by decide +kernel
theorem dX8_read_34 : decode cX8_read 34 = .ok (.istore_n 1, 1) := by decide +kernel
theorem dX8_read_35 : decode cX8_read 35 = .ok (.aload_n 0, 1) := by decide +kernel
theorem dX8_read_36 : decode cX8_read 36 = .ok (.getfield 7, 3) := by decide +kernel
theorem dX8_read_39 : decode cX8_read 39 = .ok (.iconst 0, 1) := by decide +kernel
theorem dX8_read_40 : decode cX8_read 40 = .ok (.dup2, 1) := by decide +kernel
theorem dX8_read_41 : decode cX8_read 41 = .ok (.iaload, 1) := by decide +kernel
theorem dX8_read_42 : decode cX8_read 42 = .ok (.iconst 1, 1) := by decide +kernel
theorem dX8_read_43 : decode cX8_read 43 = .ok (.iadd, 1) := by decide +kernel
theorem dX8_read_44 : decode cX8_read 44 = .ok (.iastore, 1) := by decide +kernel
theorem dX8_read_45 : decode cX8_read 45 = .ok (.aload_n 0, 1) := by decide +kernel
theorem dX8_read_46 : decode cX8_read 46 = .ok (.getfield 7, 3) := by decide +kernel
theorem dX8_read_49 : decode cX8_read 49 = .ok (.iload_n 1, 1) := by decide +kernel
theorem dX8_read_50 : decode cX8_read 50 = .ok (.invokestatic 51, 3) := by decide +kernel
theorem dX8_read_53 : decode cX8_read 53 = .ok (.aload_n 0, 1) := by decide +kernel
theorem dX8_read_54 : decode cX8_read 54 = .ok (.getfield 229, 3) := by decide +kernel
theorem dX8_read_57 : decode cX8_read 57 = .ok (.iastore, 1) := by decide +kernel
theorem dX8_read_58 : decode cX8_read 58 = .ok (.aload_n 0, 1) := by decide +kernel
theorem dX8_read_59 : decode cX8_read 59 = .ok (.getfield 7, 3) := by decide +kernel
theorem dX8_read_62 : decode cX8_read 62 = .ok (.iload_n 1, 1) := by decide +kernel
theorem dX8_read_63 : decode cX8_read 63 = .ok (.invokestatic 51, 3) := by decide +kernel
theorem dX8_read_66 : decode cX8_read 66 = .ok (.iconst 1, 1) := by decide +kernel
theorem dX8_read_67 : decode cX8_read 67 = .ok (.iadd, 1) := by decide +kernel
theorem dX8_read_68 : decode cX8_read 68 = .ok (.aload_n 0, 1) := by decide +kernel
theorem dX8_read_69 : decode cX8_read 69 = .ok (.getfield 238, 3) := by decide +kernel
theorem dX8_read_72 : decode cX8_read 72 = .ok (.ifCond .eq 7, 3) := by decide +kernel
theorem dX8_read_75 : decode cX8_read 75 = .ok (.iconst 1, 1) := by decide +kernel
theorem dX8_read_76 : decode cX8_read 76 = .ok (.goto 4, 3) := by decide +kernel
theorem dX8_read_79 : decode cX8_read 79 = .ok (.iconst 0, 1) := by decide +kernel
theorem dX8_read_80 : decode cX8_read 80 = .ok (.iastore, 1) := by decide +kernel
theorem dX8_read_81 : decode cX8_read 81 = .ok (.iconst 0, 1) := by decide +kernel
theorem dX8_read_82 : decode cX8_read 82 = .ok (.istore_n 2, 1) := by decide +kernel
theorem dX8_read_83 : decode cX8_read 83 = .ok (.iload_n 2, 1) := by decide +kernel
theorem dX8_read_84 : decode cX8_read 84 = .ok (.bipush 8, 2) := by decide +kernel
theorem dX8_read_86 : decode cX8_read 86 = .ok (.aload_n 0, 1) := by decide +kernel
theorem dX8_read_87 : decode cX8_read 87 = .ok (.getfield 229, 3) := by decide +kernel
theorem dX8_read_90 : decode cX8_read 90 = .ok (.imul, 1) := by decide +kernel
theorem dX8_read_91 : decode cX8_read 91 = .ok (.if_icmp .ge 42, 3) := by decide +kernel
theorem dX8_read_94 : decode cX8_read 94 = .ok (.aload_n 0, 1) := by decide +kernel
theorem dX8_read_95 : decode cX8_read 95 = .ok (.getfield 7, 3) := by decide +kernel
theorem dX8_read_98 : decode cX8_read 98 = .ok (.iload_n 1, 1) := by decide +kernel
theorem dX8_read_99 : decode cX8_read 99 = .ok (.iconst 0, 1) := by decide +kernel
theorem dX8_read_100 : decode cX8_read 100 = .ok (.iload_n 2, 1) := by decide +kernel
theorem dX8_read_101 : decode cX8_read 101 = .ok (.invokestatic 92, 3) := by decide +kernel
theorem dX8_read_104 : decode cX8_read 104 = .ok (.aload_n 0, 1) := by decide +kernel
theorem dX8_read_105 : decode cX8_read 105 = .ok (.getfield 41, 3) := by decide +kernel
theorem dX8_read_108 : decode cX8_read 108 = .ok (.iload_n 2, 1) := by decide +kernel
theorem dX8_read_109 : decode cX8_read 109 = .ok (.iaload, 1) := by decide +kernel
theorem dX8_read_110 : decode cX8_read 110 = .ok (.iload_n 2, 1) := by decide +kernel
theorem dX8_read_111 : decode cX8_read 111 = .ok (.bipush 8, 2) := by decide +kernel
theorem dX8_read_113 : decode cX8_read 113 = .ok (.irem, 1) := by decide +kernel
theorem dX8_read_114 : decode cX8_read 114 = .ok (.bipush 6, 2) := by decide +kernel
theorem dX8_read_116 : decode cX8_read 116 = .ok (.if_icmp .ge 8, 3) := by decide +kernel
theorem dX8_read_119 : decode cX8_read 119 = .ok (.ldc 113, 2) := by decide +kernel
theorem dX8_read_121 : decode cX8_read 121 = .ok (.goto 4, 3) := by decide +kernel
theorem dX8_read_124 : decode cX8_read 124 = .ok (.iconst 1, 1) := by decide +kernel
theorem dX8_read_125 : decode cX8_read 125 = .ok (.imul, 1) := by decide +kernel
theorem dX8_read_126 : decode cX8_read 126 = .ok (.iastore, 1) := by decide +kernel
theorem dX8_read_127 : decode cX8_read 127 = .ok (.iinc 2 1, 3) := by decide +kernel
theorem dX8_read_130 : decode cX8_read 130 = .ok (.goto (-47), 3) := by decide +kernel
theorem dX8_read_133 : decode cX8_read 133 = .ok (.aload_n 0, 1) := by decide +kernel
theorem dX8_read_134 : decode cX8_read 134 = .ok (.iload_n 1, 1) := by decide +kernel
theorem dX8_read_135 : decode cX8_read 135 = .ok (.invokevirtual 118, 3) := by decide +kernel
theorem dX8_read_138 : decode cX8_read 138 = .ok (.ireturn, 1) := by decide +kernel
theorem dX8_sign_0 : decode cX8_sign 0 = .ok (.aload_n 0, 1) := by decide +kernel
theorem dX8_sign_1 : decode cX8_sign 1 = .ok (.getfield 44, 3) := by decide +kernel
theorem dX8_sign_4 : decode cX8_sign 4 = .ok (.aload_n 0, 1) := by decide +kernel
theorem dX8_sign_5 : decode cX8_sign 5 = .ok (.getfield 251, 3) := by decide +kernel
theorem dX8_sign_8 : decode cX8_sign 8 = .ok (.iload_n 1, 1) := by decide +kernel
theorem dX8_sign_9 : decode cX8_sign 9 = .ok (.iastore, 1) := by decide +kernel
theorem dX8_sign_10 : decode cX8_sign 10 = .ok (.aload_n 0, 1) := by decide +kernel
theorem dX8_sign_11 : decode cX8_sign 11 = .ok (.dup, 1) := by decide +kernel
theorem dX8_sign_12 : decode cX8_sign 12 = .ok (.getfield 251, 3) := by decide +kernel
theorem dX8_sign_15 : decode cX8_sign 15 = .ok (.iconst 1, 1) := by decide +kernel
theorem dX8_sign_16 : decode cX8_sign 16 = .ok (.iadd, 1) := by decide +kernel
theorem dX8_sign_17 : decode cX8_sign 17 = .ok (.putfield 251, 3) := by decide +kernel
theorem dX8_sign_20 : decode cX8_sign 20 = .ok (.return_, 1) := by decide +kernel
theorem dX8_writes_0 : decode cX8_writes 0 = .ok (.aload_n 0, 1) := by decide +kernel
theorem dX8_writes_1 : decode cX8_writes 1 = .ok (.aload_n 0, 1) := by decide +kernel
theorem dX8_writes_2 : decode cX8_writes 2 = .ok (.getfield 254, 3) := by decide +kernel
theorem dX8_writes_5 : decode cX8_writes 5 = .ok (.ifCond .eq 14, 3) := by decide +kernel
theorem dX8_writes_8 : decode cX8_writes 8 = .ok (.iload_n 1, 1) := by decide +kernel
theorem dX8_writes_9 : decode cX8_writes 9 = .ok (.ldc 113, 2) := by decide +kernel
theorem dX8_writes_11 : decode cX8_writes 11 = .ok (.irem, 1) := by decide +kernel
theorem dX8_writes_12 : decode cX8_writes 12 = .ok (.ifCond .ne 7, 3) := by decide +kernel
theorem dX8_writes_15 : decode cX8_writes 15 = .ok (.iconst 1, 1) := by decide +kernel
theorem dX8_writes_16 : decode cX8_writes 16 = .ok (.goto 4, 3) := by decide +kernel
theorem dX8_writes_19 : decode cX8_writes 19 = .ok (.iconst 0, 1) := by decide +kernel
theorem dX8_writes_20 : decode cX8_writes 20 = .ok (.putfield 254, 3) := by decide +kernel
theorem dX8_writes_23 : decode cX8_writes 23 = .ok (.iload_n 1, 1) := by decide +kernel
theorem dX8_writes_24 : decode cX8_writes 24 = .ok (.ldc 113, 2) := by decide +kernel
theorem dX8_writes_26 : decode cX8_writes 26 = .ok (.idiv, 1) := by decide +kernel
theorem dX8_writes_27 : decode cX8_writes 27 = .ok (.istore_n 2, 1) := by decide +kernel
theorem dX8_writes_28 : decode cX8_writes 28 = .ok (.iload_n 2, 1) := by decide +kernel
theorem dX8_writes_29 : decode cX8_writes 29 = .ok (.ifCond .ge 12, 3) := by decide +kernel
theorem dX8_writes_32 : decode cX8_writes 32 = .ok (.aload_n 0, 1) := by decide +kernel
theorem dX8_writes_33 : decode cX8_writes 33 = .ok (.bipush 45, 2) := by decide +kernel
theorem dX8_writes_35 : decode cX8_writes 35 = .ok (.invokevirtual 257, 3) := by decide +kernel
theorem dX8_writes_38 : decode cX8_writes 38 = .ok (.iload_n 2, 1) := by decide +kernel
theorem dX8_writes_39 : decode cX8_writes 39 = .ok (.ineg, 1) := by decide +kernel
theorem dX8_writes_40 : decode cX8_writes 40 = .ok (.istore_n 2, 1) := by decide +kernel
theorem dX8_writes_41 : decode cX8_writes 41 = .ok (.iload_n 2, 1) := by decide +kernel
theorem dX8_writes_42 : decode cX8_writes 42 = .ok (.bipush 99, 2) := by decide +kernel
theorem dX8_writes_44 : decode cX8_writes 44 = .ok (.if_icmp .le 14, 3) := by decide +kernel
theorem dX8_writes_47 : decode cX8_writes 47 = .ok (.aload_n 0, 1) := by decide +kernel
theorem dX8_writes_48 : decode cX8_writes 48 = .ok (.bipush 48, 2) := by decide +kernel
theorem dX8_writes_50 : decode cX8_writes 50 = .ok (.iload_n 2, 1) := by decide +kernel
theorem dX8_writes_51 : decode cX8_writes 51 = .ok (.bipush 100, 2) := by decide +kernel
theorem dX8_writes_53 : decode cX8_writes 53 = .ok (.idiv, 1) := by decide +kernel
theorem dX8_writes_54 : decode cX8_writes 54 = .ok (.iadd, 1) := by decide +kernel
theorem dX8_writes_55 : decode cX8_writes 55 = .ok (.invokevirtual 257, 3) := by decide +kernel
theorem dX8_writes_58 : decode cX8_writes 58 = .ok (.iload_n 2, 1) := by decide +kernel
theorem dX8_writes_59 : decode cX8_writes 59 = .ok (.bipush 9, 2) := by decide +kernel
theorem dX8_writes_61 : decode cX8_writes 61 = .ok (.if_icmp .le 17, 3) := by decide +kernel
theorem dX8_writes_64 : decode cX8_writes 64 = .ok (.aload_n 0, 1) := by decide +kernel
theorem dX8_writes_65 : decode cX8_writes 65 = .ok (.bipush 48, 2) := by decide +kernel
theorem dX8_writes_67 : decode cX8_writes 67 = .ok (.iload_n 2, 1) := by decide +kernel
theorem dX8_writes_68 : decode cX8_writes 68 = .ok (.bipush 10, 2) := by decide +kernel
theorem dX8_writes_70 : decode cX8_writes 70 = .ok (.idiv, 1) := by decide +kernel
theorem dX8_writes_71 : decode cX8_writes 71 = .ok (.bipush 10, 2) := by decide +kernel
theorem dX8_writes_73 : decode cX8_writes 73 = .ok (.irem, 1) := by decide +kernel
theorem dX8_writes_74 : decode cX8_writes 74 = .ok (.iadd, 1) := by decide +kernel
theorem dX8_writes_75 : decode cX8_writes 75 = .ok (.invokevirtual 257, 3) := by decide +kernel
theorem dX8_writes_78 : decode cX8_writes 78 = .ok (.aload_n 0, 1) := by decide +kernel
theorem dX8_writes_79 : decode cX8_writes 79 = .ok (.bipush 48, 2) := by decide +kernel
theorem dX8_writes_81 : decode cX8_writes 81 = .ok (.iload_n 2, 1) := by decide +kernel
theorem dX8_writes_82 : decode cX8_writes 82 = .ok (.bipush 10, 2) := by decide +kernel
theorem dX8_writes_84 : decode cX8_writes 84 = .ok (.irem, 1) := by decide +kernel
theorem dX8_writes_85 : decode cX8_writes 85 = .ok (.iadd, 1) := by decide +kernel
theorem dX8_writes_86 : decode cX8_writes 86 = .ok (.invokevirtual 257, 3) := by decide +kernel
theorem dX8_writes_89 : decode cX8_writes 89 = .ok (.return_, 1) := by decide +kernel
theorem dX8_writesPoint_0 : decode cX8_writesPoint 0 = .ok (.aload_n 0, 1) := by decide +kernel
theorem dX8_writesPoint_1 : decode cX8_writesPoint 1 = .ok (.aload_n 0, 1) := by decide +kernel
theorem dX8_writesPoint_2 : decode cX8_writesPoint 2 = .ok (.getfield 35, 3) := by decide +kernel
theorem dX8_writesPoint_5 : decode cX8_writesPoint 5 = .ok (.iload_n 1, 1) := by decide +kernel
theorem dX8_writesPoint_6 : decode cX8_writesPoint 6 = .ok (.iaload, 1) := by decide +kernel
theorem dX8_writesPoint_7 : decode cX8_writesPoint 7 = .ok (.invokevirtual 260, 3) := by decide +kernel
theorem dX8_writesPoint_10 : decode cX8_writesPoint 10 = .ok (.aload_n 0, 1) := by decide +kernel
theorem dX8_writesPoint_11 : decode cX8_writesPoint 11 = .ok (.bipush 32, 2) := by decide +kernel
theorem dX8_writesPoint_13 : decode cX8_writesPoint 13 = .ok (.invokevirtual 257, 3) := by decide +kernel
theorem dX8_writesPoint_16 : decode cX8_writesPoint 16 = .ok (.aload_n 0, 1) := by decide +kernel
theorem dX8_writesPoint_17 : decode cX8_writesPoint 17 = .ok (.aload_n 0, 1) := by decide +kernel
theorem dX8_writesPoint_18 : decode cX8_writesPoint 18 = .ok (.getfield 35, 3) := by decide +kernel
theorem dX8_writesPoint_21 : decode cX8_writesPoint 21 = .ok (.iconst 4, 1) := by decide +kernel
theorem dX8_writesPoint_22 : decode cX8_writesPoint 22 = .ok (.iload_n 1, 1) := by decide +kernel
theorem dX8_writesPoint_23 : decode cX8_writesPoint 23 = .ok (.iadd, 1) := by decide +kernel
theorem dX8_writesPoint_24 : decode cX8_writesPoint 24 = .ok (.iaload, 1) := by decide +kernel
theorem dX8_writesPoint_25 : decode cX8_writesPoint 25 = .ok (.invokevirtual 260, 3) := by decide +kernel
theorem dX8_writesPoint_28 : decode cX8_writesPoint 28 = .ok (.return_, 1) := by decide +kernel
theorem dX8_isLine_0 : decode cX8_isLine 0 = .ok (.aload_n 0, 1) := by decide +kernel
theorem dX8_isLine_1 : decode cX8_isLine 1 = .ok (.iload_n 1, 1) := by decide +kernel
theorem dX8_isLine_2 : decode cX8_isLine 2 = .ok (.iload_n 2, 1) := by decide +kernel
theorem dX8_isLine_3 : decode cX8_isLine 3 = .ok (.invokevirtual 155, 3) := by decide +kernel
theorem dX8_isLine_6 : decode cX8_isLine 6 = .ok (.aload_n 0, 1) := by decide +kernel
theorem dX8_isLine_7 : decode cX8_isLine 7 = .ok (.getfield 35, 3) := by decide +kernel
theorem dX8_isLine_10 : decode cX8_isLine 10 = .ok (.iconst 0, 1) := by decide +kernel
theorem dX8_isLine_11 : decode cX8_isLine 11 = .ok (.iaload, 1) := by decide +kernel
theorem dX8_isLine_12 : decode cX8_isLine 12 = .ok (.aload_n 0, 1) := by decide +kernel
theorem dX8_isLine_13 : decode cX8_isLine 13 = .ok (.getfield 35, 3) := by decide +kernel
theorem dX8_isLine_16 : decode cX8_isLine 16 = .ok (.iconst 1, 1) := by decide +kernel
theorem dX8_isLine_17 : decode cX8_isLine 17 = .ok (.iaload, 1) := by decide +kernel
theorem dX8_isLine_18 : decode cX8_isLine 18 = .ok (.if_icmp .ne 54, 3) := by decide +kernel
theorem dX8_isLine_21 : decode cX8_isLine 21 = .ok (.aload_n 0, 1) := by decide +kernel
theorem dX8_isLine_22 : decode cX8_isLine 22 = .ok (.getfield 35, 3) := by decide +kernel
theorem dX8_isLine_25 : decode cX8_isLine 25 = .ok (.iconst 4, 1) := by decide +kernel
theorem dX8_isLine_26 : decode cX8_isLine 26 = .ok (.iaload, 1) := by decide +kernel
theorem dX8_isLine_27 : decode cX8_isLine 27 = .ok (.aload_n 0, 1) := by decide +kernel
theorem dX8_isLine_28 : decode cX8_isLine 28 = .ok (.getfield 35, 3) := by decide +kernel
theorem dX8_isLine_31 : decode cX8_isLine 31 = .ok (.iconst 5, 1) := by decide +kernel
theorem dX8_isLine_32 : decode cX8_isLine 32 = .ok (.iaload, 1) := by decide +kernel
theorem dX8_isLine_33 : decode cX8_isLine 33 = .ok (.if_icmp .ne 39, 3) := by decide +kernel
theorem dX8_isLine_36 : decode cX8_isLine 36 = .ok (.aload_n 0, 1) := by decide +kernel
theorem dX8_isLine_37 : decode cX8_isLine 37 = .ok (.getfield 35, 3) := by decide +kernel
theorem dX8_isLine_40 : decode cX8_isLine 40 = .ok (.iconst 2, 1) := by decide +kernel
theorem dX8_isLine_41 : decode cX8_isLine 41 = .ok (.iaload, 1) := by decide +kernel
theorem dX8_isLine_42 : decode cX8_isLine 42 = .ok (.aload_n 0, 1) := by decide +kernel
theorem dX8_isLine_43 : decode cX8_isLine 43 = .ok (.getfield 35, 3) := by decide +kernel
theorem dX8_isLine_46 : decode cX8_isLine 46 = .ok (.iconst 3, 1) := by decide +kernel
theorem dX8_isLine_47 : decode cX8_isLine 47 = .ok (.iaload, 1) := by decide +kernel
theorem dX8_isLine_48 : decode cX8_isLine 48 = .ok (.if_icmp .ne 24, 3) := by decide +kernel
theorem dX8_isLine_51 : decode cX8_isLine 51 = .ok (.aload_n 0, 1) := by decide +kernel
theorem dX8_isLine_52 : decode cX8_isLine 52 = .ok (.getfield 35, 3) := by decide +kernel
theorem dX8_isLine_55 : decode cX8_isLine 55 = .ok (.bipush 6, 2) := by decide +kernel
theorem dX8_isLine_57 : decode cX8_isLine 57 = .ok (.iaload, 1) := by decide +kernel
theorem dX8_isLine_58 : decode cX8_isLine 58 = .ok (.aload_n 0, 1) := by decide +kernel
theorem dX8_isLine_59 : decode cX8_isLine 59 = .ok (.getfield 35, 3) := by decide +kernel
theorem dX8_isLine_62 : decode cX8_isLine 62 = .ok (.bipush 7, 2) := by decide +kernel
theorem dX8_isLine_64 : decode cX8_isLine 64 = .ok (.iaload, 1) := by decide +kernel
theorem dX8_isLine_65 : decode cX8_isLine 65 = .ok (.if_icmp .ne 7, 3) := by decide +kernel
theorem dX8_isLine_68 : decode cX8_isLine 68 = .ok (.iconst 1, 1) := by decide +kernel
theorem dX8_isLine_69 : decode cX8_isLine 69 = .ok (.goto 4, 3) := by decide +kernel
theorem dX8_isLine_72 : decode cX8_isLine 72 = .ok (.iconst 0, 1) := by decide +kernel
theorem dX8_isLine_73 : decode cX8_isLine 73 = .ok (.ireturn, 1) := by decide +kernel
theorem dX8_print_0 : decode cX8_print 0 = .ok (.aload_n 0, 1) := by decide +kernel
theorem dX8_print_1 : decode cX8_print 1 = .ok (.iload_n 1, 1) := by decide +kernel
theorem dX8_print_2 : decode cX8_print 2 = .ok (.invokevirtual 55, 3) := by decide +kernel
theorem dX8_print_5 : decode cX8_print 5 = .ok (.ifCond .ne 6, 3) := by decide +kernel
theorem dX8_print_8 : decode cX8_print 8 = .ok (.ldc 121, 2) := by decide +kernel
theorem dX8_print_10 : decode cX8_print 10 = .ok (.ireturn, 1) := by decide +kernel
theorem dX8_print_11 : decode cX8_print 11 = .ok (.aload_n 0, 1) := by decide +kernel
theorem dX8_print_12 : decode cX8_print 12 = .ok (.iconst 0, 1) := by decide +kernel
theorem dX8_print_13 : decode cX8_print 13 = .ok (.putfield 251, 3) := by decide +kernel
theorem dX8_print_16 : decode cX8_print 16 = .ok (.aload_n 0, 1) := by decide +kernel
theorem dX8_print_17 : decode cX8_print 17 = .ok (.iconst 1, 1) := by decide +kernel
theorem dX8_print_18 : decode cX8_print 18 = .ok (.putfield 254, 3) := by decide +kernel
theorem dX8_print_21 : decode cX8_print 21 = .ok (.aload_n 0, 1) := by decide +kernel
theorem dX8_print_22 : decode cX8_print 22 = .ok (.bipush 77, 2) := by decide +kernel
theorem dX8_print_24 : decode cX8_print 24 = .ok (.invokevirtual 257, 3) := by decide +kernel
theorem dX8_print_27 : decode cX8_print 27 = .ok (.aload_n 0, 1) := by decide +kernel
theorem dX8_print_28 : decode cX8_print 28 = .ok (.aload_n 0, 1) := by decide +kernel
theorem dX8_print_29 : decode cX8_print 29 = .ok (.getfield 7, 3) := by decide +kernel
theorem dX8_print_32 : decode cX8_print 32 = .ok (.iload_n 1, 1) := by decide +kernel
theorem dX8_print_33 : decode cX8_print 33 = .ok (.iconst 0, 1) := by decide +kernel
theorem dX8_print_34 : decode cX8_print 34 = .ok (.iconst 0, 1) := by decide +kernel
theorem dX8_print_35 : decode cX8_print 35 = .ok (.invokestatic 92, 3) := by decide +kernel
theorem dX8_print_38 : decode cX8_print 38 = .ok (.iaload, 1) := by decide +kernel
theorem dX8_print_39 : decode cX8_print 39 = .ok (.invokevirtual 260, 3) := by decide +kernel
theorem dX8_print_42 : decode cX8_print 42 = .ok (.aload_n 0, 1) := by decide +kernel
theorem dX8_print_43 : decode cX8_print 43 = .ok (.bipush 32, 2) := by decide +kernel
theorem dX8_print_45 : decode cX8_print 45 = .ok (.invokevirtual 257, 3) := by decide +kernel
theorem dX8_print_48 : decode cX8_print 48 = .ok (.aload_n 0, 1) := by decide +kernel
theorem dX8_print_49 : decode cX8_print 49 = .ok (.aload_n 0, 1) := by decide +kernel
theorem dX8_print_50 : decode cX8_print 50 = .ok (.getfield 7, 3) := by decide +kernel
theorem dX8_print_53 : decode cX8_print 53 = .ok (.iload_n 1, 1) := by decide +kernel
theorem dX8_print_54 : decode cX8_print 54 = .ok (.iconst 0, 1) := by decide +kernel
theorem dX8_print_55 : decode cX8_print 55 = .ok (.iconst 1, 1) := by decide +kernel
theorem dX8_print_56 : decode cX8_print 56 = .ok (.invokestatic 92, 3) := by decide +kernel
theorem dX8_print_59 : decode cX8_print 59 = .ok (.iaload, 1) := by decide +kernel
theorem dX8_print_60 : decode cX8_print 60 = .ok (.invokevirtual 260, 3) := by decide +kernel
theorem dX8_print_63 : decode cX8_print 63 = .ok (.aload_n 0, 1) := by decide +kernel
theorem dX8_print_64 : decode cX8_print 64 = .ok (.iload_n 1, 1) := by decide +kernel
theorem dX8_print_65 : decode cX8_print 65 = .ok (.invokevirtual 59, 3) := by decide +kernel
theorem dX8_print_68 : decode cX8_print 68 = .ok (.istore_n 2, 1) := by decide +kernel
theorem dX8_print_69 : decode cX8_print 69 = .ok (.iconst 0, 1) := by decide +kernel
theorem dX8_print_70 : decode cX8_print 70 = .ok (.istore_n 3, 1) := by decide +kernel
theorem dX8_print_71 : decode cX8_print 71 = .ok (.iload_n 3, 1) := by decide +kernel
theorem dX8_print_72 : decode cX8_print 72 = .ok (.iload_n 2, 1) := by decide +kernel
theorem dX8_print_73 : decode cX8_print 73 = .ok (.iconst 1, 1) := by decide +kernel
theorem dX8_print_74 : decode cX8_print 74 = .ok (.isub, 1) := by decide +kernel
theorem dX8_print_75 : decode cX8_print 75 = .ok (.if_icmp .ge 75, 3) := by decide +kernel
theorem dX8_print_78 : decode cX8_print 78 = .ok (.aload_n 0, 1) := by decide +kernel
theorem dX8_print_79 : decode cX8_print 79 = .ok (.iload_n 1, 1) := by decide +kernel
theorem dX8_print_80 : decode cX8_print 80 = .ok (.iload_n 3, 1) := by decide +kernel
theorem dX8_print_81 : decode cX8_print 81 = .ok (.invokevirtual 263, 3) := by decide +kernel
theorem dX8_print_84 : decode cX8_print 84 = .ok (.istore 4, 2) := by decide +kernel
theorem dX8_print_86 : decode cX8_print 86 = .ok (.aload_n 0, 1) := by decide +kernel
theorem dX8_print_87 : decode cX8_print 87 = .ok (.iload 4, 2) := by decide +kernel
theorem dX8_print_89 : decode cX8_print 89 = .ok (.ifCond .eq 8, 3) := by decide +kernel
theorem dX8_print_92 : decode cX8_print 92 = .ok (.bipush 76, 2) := by decide +kernel
theorem dX8_print_94 : decode cX8_print 94 = .ok (.goto 5, 3) := by decide +kernel
theorem dX8_print_97 : decode cX8_print 97 = .ok (.bipush 67, 2) := by decide +kernel
theorem dX8_print_99 : decode cX8_print 99 = .ok (.invokevirtual 257, 3) := by decide +kernel
theorem dX8_print_102 : decode cX8_print 102 = .ok (.iload 4, 2) := by decide +kernel
theorem dX8_print_104 : decode cX8_print 104 = .ok (.ifCond .eq 7, 3) := by decide +kernel
theorem dX8_print_107 : decode cX8_print 107 = .ok (.iconst 3, 1) := by decide +kernel
theorem dX8_print_108 : decode cX8_print 108 = .ok (.goto 4, 3) := by decide +kernel
theorem dX8_print_111 : decode cX8_print 111 = .ok (.iconst 1, 1) := by decide +kernel
theorem dX8_print_112 : decode cX8_print 112 = .ok (.istore 5, 2) := by decide +kernel
theorem dX8_print_114 : decode cX8_print 114 = .ok (.iload 5, 2) := by decide +kernel
theorem dX8_print_116 : decode cX8_print 116 = .ok (.iconst 4, 1) := by decide +kernel
theorem dX8_print_117 : decode cX8_print 117 = .ok (.if_icmp .ge 27, 3) := by decide +kernel
theorem dX8_print_120 : decode cX8_print 120 = .ok (.aload_n 0, 1) := by decide +kernel
theorem dX8_print_121 : decode cX8_print 121 = .ok (.iload 5, 2) := by decide +kernel
theorem dX8_print_123 : decode cX8_print 123 = .ok (.invokevirtual 266, 3) := by decide +kernel
theorem dX8_print_126 : decode cX8_print 126 = .ok (.iload 5, 2) := by decide +kernel
theorem dX8_print_128 : decode cX8_print 128 = .ok (.iconst 3, 1) := by decide +kernel
theorem dX8_print_129 : decode cX8_print 129 = .ok (.if_icmp .ge 9, 3) := by decide +kernel
theorem dX8_print_132 : decode cX8_print 132 = .ok (.aload_n 0, 1) := by decide +kernel
theorem dX8_print_133 : decode cX8_print 133 = .ok (.bipush 32, 2) := by decide +kernel
theorem dX8_print_135 : decode cX8_print 135 = .ok (.invokevirtual 257, 3) := by decide +kernel
theorem dX8_print_138 : decode cX8_print 138 = .ok (.iinc 5 1, 3) := by decide +kernel
theorem dX8_print_141 : decode cX8_print 141 = .ok (.goto (-27), 3) := by decide +kernel
theorem dX8_print_144 : decode cX8_print 144 = .ok (.iinc 3 1, 3) := by decide +kernel
theorem dX8_print_147 : decode cX8_print 147 = .ok (.goto (-76), 3) := by decide +kernel
theorem dX8_print_150 : decode cX8_print 150 = .ok (.aload_n 0, 1) := by decide +kernel
theorem dX8_print_151 : decode cX8_print 151 = .ok (.iload_n 1, 1) := by decide +kernel
theorem dX8_print_152 : decode cX8_print 152 = .ok (.invokevirtual 62, 3) := by decide +kernel
theorem dX8_print_155 : decode cX8_print 155 = .ok (.ifCond .eq 36, 3) := by decide +kernel
theorem dX8_print_158 : decode cX8_print 158 = .ok (.aload_n 0, 1) := by decide +kernel
theorem dX8_print_159 : decode cX8_print 159 = .ok (.aload_n 0, 1) := by decide +kernel
theorem dX8_print_160 : decode cX8_print 160 = .ok (.getfield 254, 3) := by decide +kernel
theorem dX8_print_163 : decode cX8_print 163 = .ok (.ifCond .eq 18, 3) := by decide +kernel
theorem dX8_print_166 : decode cX8_print 166 = .ok (.aload_n 0, 1) := by decide +kernel
theorem dX8_print_167 : decode cX8_print 167 = .ok (.iload_n 1, 1) := by decide +kernel
theorem dX8_print_168 : decode cX8_print 168 = .ok (.iload_n 2, 1) := by decide +kernel
theorem dX8_print_169 : decode cX8_print 169 = .ok (.iconst 1, 1) := by decide +kernel
theorem dX8_print_170 : decode cX8_print 170 = .ok (.isub, 1) := by decide +kernel
theorem dX8_print_171 : decode cX8_print 171 = .ok (.invokevirtual 263, 3) := by decide +kernel
theorem dX8_print_174 : decode cX8_print 174 = .ok (.ifCond .eq 7, 3) := by decide +kernel
theorem dX8_print_177 : decode cX8_print 177 = .ok (.iconst 1, 1) := by decide +kernel
theorem dX8_print_178 : decode cX8_print 178 = .ok (.goto 4, 3) := by decide +kernel
theorem dX8_print_181 : decode cX8_print 181 = .ok (.iconst 0, 1) := by decide +kernel
theorem dX8_print_182 : decode cX8_print 182 = .ok (.putfield 254, 3) := by decide +kernel
theorem dX8_print_185 : decode cX8_print 185 = .ok (.aload_n 0, 1) := by decide +kernel
theorem dX8_print_186 : decode cX8_print 186 = .ok (.bipush 90, 2) := by decide +kernel
theorem dX8_print_188 : decode cX8_print 188 = .ok (.invokevirtual 257, 3) := by decide +kernel
theorem dX8_print_191 : decode cX8_print 191 = .ok (.aload_n 0, 1) := by decide +kernel
theorem dX8_print_192 : decode cX8_print 192 = .ok (.getfield 254, 3) := by decide +kernel
theorem dX8_print_195 : decode cX8_print 195 = .ok (.ifCond .ne 6, 3) := by decide +kernel
theorem dX8_print_198 : decode cX8_print 198 = .ok (.ldc 122, 2) := by decide +kernel
theorem dX8_print_200 : decode cX8_print 200 = .ok (.ireturn, 1) := by decide +kernel
theorem dX8_print_201 : decode cX8_print 201 = .ok (.iconst 0, 1) := by decide +kernel
theorem dX8_print_202 : decode cX8_print 202 = .ok (.istore_n 3, 1) := by decide +kernel
theorem dX8_print_203 : decode cX8_print 203 = .ok (.iload_n 3, 1) := by decide +kernel
theorem dX8_print_204 : decode cX8_print 204 = .ok (.aload_n 0, 1) := by decide +kernel
theorem dX8_print_205 : decode cX8_print 205 = .ok (.getfield 251, 3) := by decide +kernel
theorem dX8_print_208 : decode cX8_print 208 = .ok (.if_icmp .ge 21, 3) := by decide +kernel
theorem dX8_print_211 : decode cX8_print 211 = .ok (.aload_n 0, 1) := by decide +kernel
theorem dX8_print_212 : decode cX8_print 212 = .ok (.getfield 32, 3) := by decide +kernel
theorem dX8_print_215 : decode cX8_print 215 = .ok (.iload_n 3, 1) := by decide +kernel
theorem dX8_print_216 : decode cX8_print 216 = .ok (.aload_n 0, 1) := by decide +kernel
theorem dX8_print_217 : decode cX8_print 217 = .ok (.getfield 44, 3) := by decide +kernel
theorem dX8_print_220 : decode cX8_print 220 = .ok (.iload_n 3, 1) := by decide +kernel
theorem dX8_print_221 : decode cX8_print 221 = .ok (.iaload, 1) := by decide +kernel
theorem dX8_print_222 : decode cX8_print 222 = .ok (.iastore, 1) := by decide +kernel
theorem dX8_print_223 : decode cX8_print 223 = .ok (.iinc 3 1, 3) := by decide +kernel
theorem dX8_print_226 : decode cX8_print 226 = .ok (.goto (-23), 3) := by decide +kernel
theorem dX8_print_229 : decode cX8_print 229 = .ok (.aload_n 0, 1) := by decide +kernel
theorem dX8_print_230 : decode cX8_print 230 = .ok (.aload_n 0, 1) := by decide +kernel
theorem dX8_print_231 : decode cX8_print 231 = .ok (.getfield 251, 3) := by decide +kernel
theorem dX8_print_234 : decode cX8_print 234 = .ok (.putfield 269, 3) := by decide +kernel
theorem dX8_print_237 : decode cX8_print 237 = .ok (.aload_n 0, 1) := by decide +kernel
theorem dX8_print_238 : decode cX8_print 238 = .ok (.getfield 269, 3) := by decide +kernel
theorem dX8_print_241 : decode cX8_print 241 = .ok (.ireturn, 1) := by decide +kernel
theorem dX8_printed_0 : decode cX8_printed 0 = .ok (.iload_n 1, 1) := by decide +kernel
theorem dX8_printed_1 : decode cX8_printed 1 = .ok (.iconst 0, 1) := by decide +kernel
theorem dX8_printed_2 : decode cX8_printed 2 = .ok (.aload_n 0, 1) := by decide +kernel
theorem dX8_printed_3 : decode cX8_printed 3 = .ok (.getfield 269, 3) := by decide +kernel
theorem dX8_printed_6 : decode cX8_printed 6 = .ok (.iconst 1, 1) := by decide +kernel
theorem dX8_printed_7 : decode cX8_printed 7 = .ok (.isub, 1) := by decide +kernel
theorem dX8_printed_8 : decode cX8_printed 8 = .ok (.invokestatic 47, 3) := by decide +kernel
theorem dX8_printed_11 : decode cX8_printed 11 = .ok (.ifCond .eq 12, 3) := by decide +kernel
theorem dX8_printed_14 : decode cX8_printed 14 = .ok (.aload_n 0, 1) := by decide +kernel
theorem dX8_printed_15 : decode cX8_printed 15 = .ok (.getfield 32, 3) := by decide +kernel
theorem dX8_printed_18 : decode cX8_printed 18 = .ok (.iload_n 1, 1) := by decide +kernel
theorem dX8_printed_19 : decode cX8_printed 19 = .ok (.iaload, 1) := by decide +kernel
theorem dX8_printed_20 : decode cX8_printed 20 = .ok (.goto 5, 3) := by decide +kernel
theorem dX8_printed_23 : decode cX8_printed 23 = .ok (.ldc 121, 2) := by decide +kernel
theorem dX8_printed_25 : decode cX8_printed 25 = .ok (.ireturn, 1) := by decide +kernel
theorem dX8_save_0 : decode cX8_save 0 = .ok (.iload_n 1, 1) := by decide +kernel
theorem dX8_save_1 : decode cX8_save 1 = .ok (.iconst 0, 1) := by decide +kernel
theorem dX8_save_2 : decode cX8_save 2 = .ok (.iconst 1, 1) := by decide +kernel
theorem dX8_save_3 : decode cX8_save 3 = .ok (.invokestatic 47, 3) := by decide +kernel
theorem dX8_save_6 : decode cX8_save 6 = .ok (.ifCond .ne 6, 3) := by decide +kernel
theorem dX8_save_9 : decode cX8_save 9 = .ok (.ldc 121, 2) := by decide +kernel
theorem dX8_save_11 : decode cX8_save 11 = .ok (.ireturn, 1) := by decide +kernel
theorem dX8_save_12 : decode cX8_save 12 = .ok (.aload_n 0, 1) := by decide +kernel
theorem dX8_save_13 : decode cX8_save 13 = .ok (.aload_n 0, 1) := by decide +kernel
theorem dX8_save_14 : decode cX8_save 14 = .ok (.getfield 7, 3) := by decide +kernel
theorem dX8_save_17 : decode cX8_save 17 = .ok (.iconst 0, 1) := by decide +kernel
theorem dX8_save_18 : decode cX8_save 18 = .ok (.aload_n 0, 1) := by decide +kernel
theorem dX8_save_19 : decode cX8_save 19 = .ok (.getfield 22, 3) := by decide +kernel
theorem dX8_save_22 : decode cX8_save 22 = .ok (.sipush 589, 3) := by decide +kernel
theorem dX8_save_25 : decode cX8_save 25 = .ok (.iload_n 1, 1) := by decide +kernel
theorem dX8_save_26 : decode cX8_save 26 = .ok (.imul, 1) := by decide +kernel
theorem dX8_save_27 : decode cX8_save 27 = .ok (.invokevirtual 68, 3) := by decide +kernel
theorem dX8_save_30 : decode cX8_save 30 = .ok (.aload_n 0, 1) := by decide +kernel
theorem dX8_save_31 : decode cX8_save 31 = .ok (.getfield 25, 3) := by decide +kernel
theorem dX8_save_34 : decode cX8_save 34 = .ok (.iload_n 1, 1) := by decide +kernel
theorem dX8_save_35 : decode cX8_save 35 = .ok (.iconst 1, 1) := by decide +kernel
theorem dX8_save_36 : decode cX8_save 36 = .ok (.bastore, 1) := by decide +kernel
theorem dX8_save_37 : decode cX8_save 37 = .ok (.aload_n 0, 1) := by decide +kernel
theorem dX8_save_38 : decode cX8_save 38 = .ok (.getfield 7, 3) := by decide +kernel
theorem dX8_save_41 : decode cX8_save 41 = .ok (.iconst 0, 1) := by decide +kernel
theorem dX8_save_42 : decode cX8_save 42 = .ok (.iaload, 1) := by decide +kernel
theorem dX8_save_43 : decode cX8_save 43 = .ok (.ireturn, 1) := by decide +kernel
theorem dX8_restore_0 : decode cX8_restore 0 = .ok (.iload_n 1, 1) := by decide +kernel
theorem dX8_restore_1 : decode cX8_restore 1 = .ok (.iconst 0, 1) := by decide +kernel
theorem dX8_restore_2 : decode cX8_restore 2 = .ok (.iconst 1, 1) := by decide +kernel
theorem dX8_restore_3 : decode cX8_restore 3 = .ok (.invokestatic 47, 3) := by decide +kernel
theorem dX8_restore_6 : decode cX8_restore 6 = .ok (.ifCond .ne 6, 3) := by decide +kernel
theorem dX8_restore_9 : decode cX8_restore 9 = .ok (.ldc 121, 2) := by decide +kernel
theorem dX8_restore_11 : decode cX8_restore 11 = .ok (.ireturn, 1) := by decide +kernel
theorem dX8_restore_12 : decode cX8_restore 12 = .ok (.aload_n 0, 1) := by decide +kernel
theorem dX8_restore_13 : decode cX8_restore 13 = .ok (.getfield 25, 3) := by decide +kernel
theorem dX8_restore_16 : decode cX8_restore 16 = .ok (.iload_n 1, 1) := by decide +kernel
theorem dX8_restore_17 : decode cX8_restore 17 = .ok (.baload, 1) := by decide +kernel
theorem dX8_restore_18 : decode cX8_restore 18 = .ok (.ifCond .ne 6, 3) := by decide +kernel
theorem dX8_restore_21 : decode cX8_restore 21 = .ok (.ldc 122, 2) := by decide +kernel
theorem dX8_restore_23 : decode cX8_restore 23 = .ok (.ireturn, 1) := by decide +kernel
theorem dX8_restore_24 : decode cX8_restore 24 = .ok (.aload_n 0, 1) := by decide +kernel
theorem dX8_restore_25 : decode cX8_restore 25 = .ok (.aload_n 0, 1) := by decide +kernel
theorem dX8_restore_26 : decode cX8_restore 26 = .ok (.getfield 22, 3) := by decide +kernel
theorem dX8_restore_29 : decode cX8_restore 29 = .ok (.sipush 589, 3) := by decide +kernel
theorem dX8_restore_32 : decode cX8_restore 32 = .ok (.iload_n 1, 1) := by decide +kernel
theorem dX8_restore_33 : decode cX8_restore 33 = .ok (.imul, 1) := by decide +kernel
theorem dX8_restore_34 : decode cX8_restore 34 = .ok (.aload_n 0, 1) := by decide +kernel
theorem dX8_restore_35 : decode cX8_restore 35 = .ok (.getfield 7, 3) := by decide +kernel
theorem dX8_restore_38 : decode cX8_restore 38 = .ok (.iconst 0, 1) := by decide +kernel
theorem dX8_restore_39 : decode cX8_restore 39 = .ok (.invokevirtual 68, 3) := by decide +kernel
theorem dX8_restore_42 : decode cX8_restore 42 = .ok (.aload_n 0, 1) := by decide +kernel
theorem dX8_restore_43 : decode cX8_restore 43 = .ok (.iconst 0, 1) := by decide +kernel
theorem dX8_restore_44 : decode cX8_restore 44 = .ok (.putfield 72, 3) := by decide +kernel
theorem dX8_restore_47 : decode cX8_restore 47 = .ok (.aload_n 0, 1) := by decide +kernel
theorem dX8_restore_48 : decode cX8_restore 48 = .ok (.iconst 0, 1) := by decide +kernel
theorem dX8_restore_49 : decode cX8_restore 49 = .ok (.putfield 80, 3) := by decide +kernel
theorem dX8_restore_52 : decode cX8_restore 52 = .ok (.aload_n 0, 1) := by decide +kernel
theorem dX8_restore_53 : decode cX8_restore 53 = .ok (.getfield 7, 3) := by decide +kernel
theorem dX8_restore_56 : decode cX8_restore 56 = .ok (.iconst 0, 1) := by decide +kernel
theorem dX8_restore_57 : decode cX8_restore 57 = .ok (.iaload, 1) := by decide +kernel
theorem dX8_restore_58 : decode cX8_restore 58 = .ok (.ireturn, 1) := by decide +kernel
theorem dX8_more_0 : decode cX8_more 0 = .ok (.ldc2_w 272, 3) := by decide +kernel
theorem dX8_more_3 : decode cX8_more 3 = .ok (.lload_n 0, 1) := by decide +kernel
theorem dX8_more_4 : decode cX8_more 4 = .ok (.lmul, 1) := by decide +kernel
theorem dX8_more_5 : decode cX8_more 5 = .ok (.lload_n 2, 1) := by decide +kernel
theorem dX8_more_6 : decode cX8_more 6 = .ok (.ladd, 1) := by decide +kernel
theorem dX8_more_7 : decode cX8_more 7 = .ok (.lreturn, 1) := by decide +kernel
theorem dX8_checksum_0 : decode cX8_checksum 0 = .ok (.ldc2_w 274, 3) := by decide +kernel
theorem dX8_checksum_3 : decode cX8_checksum 3 = .ok (.aload_n 0, 1) := by decide +kernel
theorem dX8_checksum_4 : decode cX8_checksum 4 = .ok (.getfield 7, 3) := by decide +kernel
theorem dX8_checksum_7 : decode cX8_checksum 7 = .ok (.iconst 0, 1) := by decide +kernel
theorem dX8_checksum_8 : decode cX8_checksum 8 = .ok (.iaload, 1) := by decide +kernel
theorem dX8_checksum_9 : decode cX8_checksum 9 = .ok (.i2l, 1) := by decide +kernel
theorem dX8_checksum_10 : decode cX8_checksum 10 = .ok (.invokestatic 276, 3) := by decide +kernel
theorem dX8_checksum_13 : decode cX8_checksum 13 = .ok (.lstore_n 1, 1) := by decide +kernel
theorem dX8_checksum_14 : decode cX8_checksum 14 = .ok (.iconst 0, 1) := by decide +kernel
theorem dX8_checksum_15 : decode cX8_checksum 15 = .ok (.istore_n 3, 1) := by decide +kernel
theorem dX8_checksum_16 : decode cX8_checksum 16 = .ok (.iload_n 3, 1) := by decide +kernel
theorem dX8_checksum_17 : decode cX8_checksum 17 = .ok (.aload_n 0, 1) := by decide +kernel
theorem dX8_checksum_18 : decode cX8_checksum 18 = .ok (.getfield 7, 3) := by decide +kernel
theorem dX8_checksum_21 : decode cX8_checksum 21 = .ok (.iconst 0, 1) := by decide +kernel
theorem dX8_checksum_22 : decode cX8_checksum 22 = .ok (.iaload, 1) := by decide +kernel
theorem dX8_checksum_23 : decode cX8_checksum 23 = .ok (.if_icmp .ge 137, 3) := by decide +kernel
theorem dX8_checksum_26 : decode cX8_checksum 26 = .ok (.lload_n 1, 1) := by decide +kernel
theorem dX8_checksum_27 : decode cX8_checksum 27 = .ok (.aload_n 0, 1) := by decide +kernel
theorem dX8_checksum_28 : decode cX8_checksum 28 = .ok (.iload_n 3, 1) := by decide +kernel
theorem dX8_checksum_29 : decode cX8_checksum 29 = .ok (.invokevirtual 59, 3) := by decide +kernel
theorem dX8_checksum_32 : decode cX8_checksum 32 = .ok (.i2l, 1) := by decide +kernel
theorem dX8_checksum_33 : decode cX8_checksum 33 = .ok (.invokestatic 276, 3) := by decide +kernel
theorem dX8_checksum_36 : decode cX8_checksum 36 = .ok (.aload_n 0, 1) := by decide +kernel
theorem dX8_checksum_37 : decode cX8_checksum 37 = .ok (.getfield 7, 3) := by decide +kernel
theorem dX8_checksum_40 : decode cX8_checksum 40 = .ok (.iload_n 3, 1) := by decide +kernel
theorem dX8_checksum_41 : decode cX8_checksum 41 = .ok (.invokestatic 51, 3) := by decide +kernel
theorem dX8_checksum_44 : decode cX8_checksum 44 = .ok (.iconst 1, 1) := by decide +kernel
theorem dX8_checksum_45 : decode cX8_checksum 45 = .ok (.iadd, 1) := by decide +kernel
theorem dX8_checksum_46 : decode cX8_checksum 46 = .ok (.iaload, 1) := by decide +kernel
theorem dX8_checksum_47 : decode cX8_checksum 47 = .ok (.i2l, 1) := by decide +kernel
theorem dX8_checksum_48 : decode cX8_checksum 48 = .ok (.invokestatic 276, 3) := by decide +kernel
theorem dX8_checksum_51 : decode cX8_checksum 51 = .ok (.lstore_n 1, 1) := by decide +kernel
theorem dX8_checksum_52 : decode cX8_checksum 52 = .ok (.iconst 0, 1) := by decide +kernel
theorem dX8_checksum_53 : decode cX8_checksum 53 = .ok (.istore 4, 2) := by decide +kernel
theorem dX8_checksum_55 : decode cX8_checksum 55 = .ok (.iload 4, 2) := by decide +kernel
theorem dX8_checksum_57 : decode cX8_checksum 57 = .ok (.aload_n 0, 1) := by decide +kernel
theorem dX8_checksum_58 : decode cX8_checksum 58 = .ok (.iload_n 3, 1) := by decide +kernel
theorem dX8_checksum_59 : decode cX8_checksum 59 = .ok (.invokevirtual 59, 3) := by decide +kernel
theorem dX8_checksum_62 : decode cX8_checksum 62 = .ok (.if_icmp .ge 70, 3) := by decide +kernel
theorem dX8_checksum_65 : decode cX8_checksum 65 = .ok (.iconst 0, 1) := by decide +kernel
theorem dX8_checksum_66 : decode cX8_checksum 66 = .ok (.istore 5, 2) := by decide +kernel
theorem dX8_checksum_68 : decode cX8_checksum 68 = .ok (.iload 5, 2) := by decide +kernel
theorem dX8_checksum_70 : decode cX8_checksum 70 = .ok (.bipush 6, 2) := by decide +kernel
theorem dX8_checksum_72 : decode cX8_checksum 72 = .ok (.if_icmp .ge 28, 3) := by decide +kernel
theorem dX8_checksum_75 : decode cX8_checksum 75 = .ok (.lload_n 1, 1) := by decide +kernel
theorem dX8_checksum_76 : decode cX8_checksum 76 = .ok (.aload_n 0, 1) := by decide +kernel
theorem dX8_checksum_77 : decode cX8_checksum 77 = .ok (.getfield 7, 3) := by decide +kernel
theorem dX8_checksum_80 : decode cX8_checksum 80 = .ok (.iload_n 3, 1) := by decide +kernel
theorem dX8_checksum_81 : decode cX8_checksum 81 = .ok (.iload 4, 2) := by decide +kernel
theorem dX8_checksum_83 : decode cX8_checksum 83 = .ok (.iload 5, 2) := by decide +kernel
theorem dX8_checksum_85 : decode cX8_checksum 85 = .ok (.invokestatic 92, 3) := by decide +kernel
theorem dX8_checksum_88 : decode cX8_checksum 88 = .ok (.iaload, 1) := by decide +kernel
theorem dX8_checksum_89 : decode cX8_checksum 89 = .ok (.i2l, 1) := by decide +kernel
theorem dX8_checksum_90 : decode cX8_checksum 90 = .ok (.invokestatic 276, 3) := by decide +kernel
theorem dX8_checksum_93 : decode cX8_checksum 93 = .ok (.lstore_n 1, 1) := by decide +kernel
theorem dX8_checksum_94 : decode cX8_checksum 94 = .ok (.iinc 5 1, 3) := by decide +kernel
theorem dX8_checksum_97 : decode cX8_checksum 97 = .ok (.goto (-29), 3) := by decide +kernel
theorem dX8_checksum_100 : decode cX8_checksum 100 = .ok (.lload_n 1, 1) := by decide +kernel
theorem dX8_checksum_101 : decode cX8_checksum 101 = .ok (.aload_n 0, 1) := by decide +kernel
theorem dX8_checksum_102 : decode cX8_checksum 102 = .ok (.iload_n 3, 1) := by decide +kernel
theorem dX8_checksum_103 : decode cX8_checksum 103 = .ok (.iload 4, 2) := by decide +kernel
theorem dX8_checksum_105 : decode cX8_checksum 105 = .ok (.iconst 0, 1) := by decide +kernel
theorem dX8_checksum_106 : decode cX8_checksum 106 = .ok (.invokevirtual 280, 3) := by decide +kernel
theorem dX8_checksum_109 : decode cX8_checksum 109 = .ok (.i2l, 1) := by decide +kernel
theorem dX8_checksum_110 : decode cX8_checksum 110 = .ok (.invokestatic 276, 3) := by decide +kernel
theorem dX8_checksum_113 : decode cX8_checksum 113 = .ok (.aload_n 0, 1) := by decide +kernel
theorem dX8_checksum_114 : decode cX8_checksum 114 = .ok (.iload_n 3, 1) := by decide +kernel
theorem dX8_checksum_115 : decode cX8_checksum 115 = .ok (.iload 4, 2) := by decide +kernel
theorem dX8_checksum_117 : decode cX8_checksum 117 = .ok (.iconst 1, 1) := by decide +kernel
theorem dX8_checksum_118 : decode cX8_checksum 118 = .ok (.invokevirtual 280, 3) := by decide +kernel
theorem dX8_checksum_121 : decode cX8_checksum 121 = .ok (.i2l, 1) := by decide +kernel
theorem dX8_checksum_122 : decode cX8_checksum 122 = .ok (.invokestatic 276, 3) := by decide +kernel
theorem dX8_checksum_125 : decode cX8_checksum 125 = .ok (.lstore_n 1, 1) := by decide +kernel
theorem dX8_checksum_126 : decode cX8_checksum 126 = .ok (.iinc 4 1, 3) := by decide +kernel
theorem dX8_checksum_129 : decode cX8_checksum 129 = .ok (.goto (-74), 3) := by decide +kernel
theorem dX8_checksum_132 : decode cX8_checksum 132 = .ok (.aload_n 0, 1) := by decide +kernel
theorem dX8_checksum_133 : decode cX8_checksum 133 = .ok (.iload_n 3, 1) := by decide +kernel
theorem dX8_checksum_134 : decode cX8_checksum 134 = .ok (.invokevirtual 62, 3) := by decide +kernel
theorem dX8_checksum_137 : decode cX8_checksum 137 = .ok (.ifCond .eq 15, 3) := by decide +kernel
theorem dX8_checksum_140 : decode cX8_checksum 140 = .ok (.lload_n 1, 1) := by decide +kernel
theorem dX8_checksum_141 : decode cX8_checksum 141 = .ok (.aload_n 0, 1) := by decide +kernel
theorem dX8_checksum_142 : decode cX8_checksum 142 = .ok (.iload_n 3, 1) := by decide +kernel
theorem dX8_checksum_143 : decode cX8_checksum 143 = .ok (.invokevirtual 194, 3) := by decide +kernel
theorem dX8_checksum_146 : decode cX8_checksum 146 = .ok (.invokestatic 276, 3) := by decide +kernel
theorem dX8_checksum_149 : decode cX8_checksum 149 = .ok (.goto 4, 3) := by decide +kernel
theorem dX8_checksum_152 : decode cX8_checksum 152 = .ok (.lload_n 1, 1) := by decide +kernel
theorem dX8_checksum_153 : decode cX8_checksum 153 = .ok (.lstore_n 1, 1) := by decide +kernel
theorem dX8_checksum_154 : decode cX8_checksum 154 = .ok (.iinc 3 1, 3) := by decide +kernel
theorem dX8_checksum_157 : decode cX8_checksum 157 = .ok (.goto (-141), 3) := by decide +kernel
theorem dX8_checksum_160 : decode cX8_checksum 160 = .ok (.lload_n 1, 1) := by decide +kernel
theorem dX8_checksum_161 : decode cX8_checksum 161 = .ok (.lreturn, 1) := by decide +kernel
theorem dL_law_0 : decode cL_law 0 = .ok (.new 7, 3) := by decide +kernel
theorem dL_law_3 : decode cL_law 3 = .ok (.dup, 1) := by decide +kernel
theorem dL_law_4 : decode cL_law 4 = .ok (.invokespecial 9, 3) := by decide +kernel
theorem dL_law_7 : decode cL_law 7 = .ok (.astore_n 1, 1) := by decide +kernel
theorem dL_law_8 : decode cL_law 8 = .ok (.new 10, 3) := by decide +kernel
theorem dL_law_11 : decode cL_law 11 = .ok (.dup, 1) := by decide +kernel
theorem dL_law_12 : decode cL_law 12 = .ok (.invokespecial 12, 3) := by decide +kernel
theorem dL_law_15 : decode cL_law 15 = .ok (.astore_n 2, 1) := by decide +kernel
theorem dL_law_16 : decode cL_law 16 = .ok (.iconst 0, 1) := by decide +kernel
theorem dL_law_17 : decode cL_law 17 = .ok (.istore_n 3, 1) := by decide +kernel
theorem dL_law_18 : decode cL_law 18 = .ok (.iload_n 3, 1) := by decide +kernel
theorem dL_law_19 : decode cL_law 19 = .ok (.aload_n 0, 1) := by decide +kernel
theorem dL_law_20 : decode cL_law 20 = .ok (.arraylength, 1) := by decide +kernel
theorem dL_law_21 : decode cL_law 21 = .ok (.bipush 7, 2) := by decide +kernel
theorem dL_law_23 : decode cL_law 23 = .ok (.isub, 1) := by decide +kernel
theorem dL_law_24 : decode cL_law 24 = .ok (.if_icmp .gt 1327, 3) := by decide +kernel
theorem dL_law_27 : decode cL_law 27 = .ok (.aload_n 0, 1) := by decide +kernel
theorem dL_law_28 : decode cL_law 28 = .ok (.iload_n 3, 1) := by decide +kernel
theorem dL_law_29 : decode cL_law 29 = .ok (.iaload, 1) := by decide +kernel
theorem dL_law_30 : decode cL_law 30 = .ok (.bipush 63, 2) := by decide +kernel
theorem dL_law_32 : decode cL_law 32 = .ok (.iand, 1) := by decide +kernel
theorem dL_law_33 : decode cL_law 33 = .ok (.tableswitch 1312 0 34 #[155, 188, 231, 254, 307, 386, 439, 472, 525, 558, 591, 624, 647, 722, 765, 778, 791, 804, 827, 850, 893, 952, 1031, 1055, 1088, 1121, 1144, 1167, 1180, 1193, 1206, 1229, 1252, 1275, 1298], 155) := by decide +kernel
theorem dL_law_188 : decode cL_law 188 = .ok (.aload_n 1, 1) := by decide +kernel
theorem dL_law_189 : decode cL_law 189 = .ok (.aload_n 0, 1) := by decide +kernel
theorem dL_law_190 : decode cL_law 190 = .ok (.iload_n 3, 1) := by decide +kernel
theorem dL_law_191 : decode cL_law 191 = .ok (.iconst 1, 1) := by decide +kernel
theorem dL_law_192 : decode cL_law 192 = .ok (.iadd, 1) := by decide +kernel
theorem dL_law_193 : decode cL_law 193 = .ok (.iaload, 1) := by decide +kernel
theorem dL_law_194 : decode cL_law 194 = .ok (.aload_n 0, 1) := by decide +kernel
theorem dL_law_195 : decode cL_law 195 = .ok (.iload_n 3, 1) := by decide +kernel
theorem dL_law_196 : decode cL_law 196 = .ok (.iconst 2, 1) := by decide +kernel
theorem dL_law_197 : decode cL_law 197 = .ok (.iadd, 1) := by decide +kernel
theorem dL_law_198 : decode cL_law 198 = .ok (.iaload, 1) := by decide +kernel
theorem dL_law_199 : decode cL_law 199 = .ok (.invokevirtual 13, 3) := by decide +kernel
theorem dL_law_202 : decode cL_law 202 = .ok (.aload_n 2, 1) := by decide +kernel
theorem dL_law_203 : decode cL_law 203 = .ok (.aload_n 0, 1) := by decide +kernel
theorem dL_law_204 : decode cL_law 204 = .ok (.iload_n 3, 1) := by decide +kernel
theorem dL_law_205 : decode cL_law 205 = .ok (.iconst 1, 1) := by decide +kernel
theorem dL_law_206 : decode cL_law 206 = .ok (.iadd, 1) := by decide +kernel
theorem dL_law_207 : decode cL_law 207 = .ok (.iaload, 1) := by decide +kernel
theorem dL_law_208 : decode cL_law 208 = .ok (.aload_n 0, 1) := by decide +kernel
theorem dL_law_209 : decode cL_law 209 = .ok (.iload_n 3, 1) := by decide +kernel
theorem dL_law_210 : decode cL_law 210 = .ok (.iconst 2, 1) := by decide +kernel
theorem dL_law_211 : decode cL_law 211 = .ok (.iadd, 1) := by decide +kernel
theorem dL_law_212 : decode cL_law 212 = .ok (.iaload, 1) := by decide +kernel
theorem dL_law_213 : decode cL_law 213 = .ok (.invokevirtual 17, 3) := by decide +kernel
theorem dL_law_216 : decode cL_law 216 = .ok (.if_icmp .eq 1129, 3) := by decide +kernel
theorem dL_law_219 : decode cL_law 219 = .ok (.iconst 0, 1) := by decide +kernel
theorem dL_law_220 : decode cL_law 220 = .ok (.ireturn, 1) := by decide +kernel
theorem dL_law_221 : decode cL_law 221 = .ok (.aload_n 1, 1) := by decide +kernel
theorem dL_law_222 : decode cL_law 222 = .ok (.aload_n 0, 1) := by decide +kernel
theorem dL_law_223 : decode cL_law 223 = .ok (.iload_n 3, 1) := by decide +kernel
theorem dL_law_224 : decode cL_law 224 = .ok (.iconst 1, 1) := by decide +kernel
theorem dL_law_225 : decode cL_law 225 = .ok (.iadd, 1) := by decide +kernel
theorem dL_law_226 : decode cL_law 226 = .ok (.iaload, 1) := by decide +kernel
theorem dL_law_227 : decode cL_law 227 = .ok (.aload_n 0, 1) := by decide +kernel
theorem dL_law_228 : decode cL_law 228 = .ok (.iload_n 3, 1) := by decide +kernel
theorem dL_law_229 : decode cL_law 229 = .ok (.iconst 2, 1) := by decide +kernel
theorem dL_law_230 : decode cL_law 230 = .ok (.iadd, 1) := by decide +kernel
theorem dL_law_231 : decode cL_law 231 = .ok (.iaload, 1) := by decide +kernel
theorem dL_law_232 : decode cL_law 232 = .ok (.aload_n 0, 1) := by decide +kernel
theorem dL_law_233 : decode cL_law 233 = .ok (.iload_n 3, 1) := by decide +kernel
theorem dL_law_234 : decode cL_law 234 = .ok (.iconst 3, 1) := by decide +kernel
theorem dL_law_235 : decode cL_law 235 = .ok (.iadd, 1) := by decide +kernel
theorem dL_law_236 : decode cL_law 236 = .ok (.iaload, 1) := by decide +kernel
theorem dL_law_237 : decode cL_law 237 = .ok (.invokevirtual 18, 3) := by decide +kernel
theorem dL_law_240 : decode cL_law 240 = .ok (.aload_n 2, 1) := by decide +kernel
theorem dL_law_241 : decode cL_law 241 = .ok (.aload_n 0, 1) := by decide +kernel
theorem dL_law_242 : decode cL_law 242 = .ok (.iload_n 3, 1) := by decide +kernel
theorem dL_law_243 : decode cL_law 243 = .ok (.iconst 1, 1) := by decide +kernel
theorem dL_law_244 : decode cL_law 244 = .ok (.iadd, 1) := by decide +kernel
theorem dL_law_245 : decode cL_law 245 = .ok (.iaload, 1) := by decide +kernel
theorem dL_law_246 : decode cL_law 246 = .ok (.aload_n 0, 1) := by decide +kernel
theorem dL_law_247 : decode cL_law 247 = .ok (.iload_n 3, 1) := by decide +kernel
theorem dL_law_248 : decode cL_law 248 = .ok (.iconst 2, 1) := by decide +kernel
theorem dL_law_249 : decode cL_law 249 = .ok (.iadd, 1) := by decide +kernel
theorem dL_law_250 : decode cL_law 250 = .ok (.iaload, 1) := by decide +kernel
theorem dL_law_251 : decode cL_law 251 = .ok (.aload_n 0, 1) := by decide +kernel
theorem dL_law_252 : decode cL_law 252 = .ok (.iload_n 3, 1) := by decide +kernel
theorem dL_law_253 : decode cL_law 253 = .ok (.iconst 3, 1) := by decide +kernel
theorem dL_law_254 : decode cL_law 254 = .ok (.iadd, 1) := by decide +kernel
theorem dL_law_255 : decode cL_law 255 = .ok (.iaload, 1) := by decide +kernel
theorem dL_law_256 : decode cL_law 256 = .ok (.invokevirtual 22, 3) := by decide +kernel
theorem dL_law_259 : decode cL_law 259 = .ok (.if_icmp .eq 1086, 3) := by decide +kernel
theorem dL_law_262 : decode cL_law 262 = .ok (.iconst 0, 1) := by decide +kernel
theorem dL_law_263 : decode cL_law 263 = .ok (.ireturn, 1) := by decide +kernel
theorem dL_law_264 : decode cL_law 264 = .ok (.aload_n 1, 1) := by decide +kernel
theorem dL_law_265 : decode cL_law 265 = .ok (.aload_n 0, 1) := by decide +kernel
theorem dL_law_266 : decode cL_law 266 = .ok (.iload_n 3, 1) := by decide +kernel
theorem dL_law_267 : decode cL_law 267 = .ok (.iconst 1, 1) := by decide +kernel
theorem dL_law_268 : decode cL_law 268 = .ok (.iadd, 1) := by decide +kernel
theorem dL_law_269 : decode cL_law 269 = .ok (.iaload, 1) := by decide +kernel
theorem dL_law_270 : decode cL_law 270 = .ok (.invokevirtual 23, 3) := by decide +kernel
theorem dL_law_273 : decode cL_law 273 = .ok (.aload_n 2, 1) := by decide +kernel
theorem dL_law_274 : decode cL_law 274 = .ok (.aload_n 0, 1) := by decide +kernel
theorem dL_law_275 : decode cL_law 275 = .ok (.iload_n 3, 1) := by decide +kernel
theorem dL_law_276 : decode cL_law 276 = .ok (.iconst 1, 1) := by decide +kernel
theorem dL_law_277 : decode cL_law 277 = .ok (.iadd, 1) := by decide +kernel
theorem dL_law_278 : decode cL_law 278 = .ok (.iaload, 1) := by decide +kernel
theorem dL_law_279 : decode cL_law 279 = .ok (.invokevirtual 27, 3) := by decide +kernel
theorem dL_law_282 : decode cL_law 282 = .ok (.if_icmp .eq 1063, 3) := by decide +kernel
theorem dL_law_285 : decode cL_law 285 = .ok (.iconst 0, 1) := by decide +kernel
theorem dL_law_286 : decode cL_law 286 = .ok (.ireturn, 1) := by decide +kernel
theorem dL_law_287 : decode cL_law 287 = .ok (.aload_n 1, 1) := by decide +kernel
theorem dL_law_288 : decode cL_law 288 = .ok (.aload_n 0, 1) := by decide +kernel
theorem dL_law_289 : decode cL_law 289 = .ok (.iload_n 3, 1) := by decide +kernel
theorem dL_law_290 : decode cL_law 290 = .ok (.iconst 1, 1) := by decide +kernel
theorem dL_law_291 : decode cL_law 291 = .ok (.iadd, 1) := by decide +kernel
theorem dL_law_292 : decode cL_law 292 = .ok (.iaload, 1) := by decide +kernel
theorem dL_law_293 : decode cL_law 293 = .ok (.aload_n 0, 1) := by decide +kernel
theorem dL_law_294 : decode cL_law 294 = .ok (.iload_n 3, 1) := by decide +kernel
theorem dL_law_295 : decode cL_law 295 = .ok (.iconst 2, 1) := by decide +kernel
theorem dL_law_296 : decode cL_law 296 = .ok (.iadd, 1) := by decide +kernel
theorem dL_law_297 : decode cL_law 297 = .ok (.iaload, 1) := by decide +kernel
theorem dL_law_298 : decode cL_law 298 = .ok (.aload_n 0, 1) := by decide +kernel
theorem dL_law_299 : decode cL_law 299 = .ok (.iload_n 3, 1) := by decide +kernel
theorem dL_law_300 : decode cL_law 300 = .ok (.iconst 3, 1) := by decide +kernel
theorem dL_law_301 : decode cL_law 301 = .ok (.iadd, 1) := by decide +kernel
theorem dL_law_302 : decode cL_law 302 = .ok (.iaload, 1) := by decide +kernel
theorem dL_law_303 : decode cL_law 303 = .ok (.aload_n 0, 1) := by decide +kernel
theorem dL_law_304 : decode cL_law 304 = .ok (.iload_n 3, 1) := by decide +kernel
theorem dL_law_305 : decode cL_law 305 = .ok (.iconst 4, 1) := by decide +kernel
theorem dL_law_306 : decode cL_law 306 = .ok (.iadd, 1) := by decide +kernel
theorem dL_law_307 : decode cL_law 307 = .ok (.iaload, 1) := by decide +kernel
theorem dL_law_308 : decode cL_law 308 = .ok (.invokevirtual 28, 3) := by decide +kernel
theorem dL_law_311 : decode cL_law 311 = .ok (.aload_n 2, 1) := by decide +kernel
theorem dL_law_312 : decode cL_law 312 = .ok (.aload_n 0, 1) := by decide +kernel
theorem dL_law_313 : decode cL_law 313 = .ok (.iload_n 3, 1) := by decide +kernel
theorem dL_law_314 : decode cL_law 314 = .ok (.iconst 1, 1) := by decide +kernel
theorem dL_law_315 : decode cL_law 315 = .ok (.iadd, 1) := by decide +kernel
theorem dL_law_316 : decode cL_law 316 = .ok (.iaload, 1) := by decide +kernel
theorem dL_law_317 : decode cL_law 317 = .ok (.aload_n 0, 1) := by decide +kernel
theorem dL_law_318 : decode cL_law 318 = .ok (.iload_n 3, 1) := by decide +kernel
theorem dL_law_319 : decode cL_law 319 = .ok (.iconst 2, 1) := by decide +kernel
theorem dL_law_320 : decode cL_law 320 = .ok (.iadd, 1) := by decide +kernel
theorem dL_law_321 : decode cL_law 321 = .ok (.iaload, 1) := by decide +kernel
theorem dL_law_322 : decode cL_law 322 = .ok (.aload_n 0, 1) := by decide +kernel
theorem dL_law_323 : decode cL_law 323 = .ok (.iload_n 3, 1) := by decide +kernel
theorem dL_law_324 : decode cL_law 324 = .ok (.iconst 3, 1) := by decide +kernel
theorem dL_law_325 : decode cL_law 325 = .ok (.iadd, 1) := by decide +kernel
theorem dL_law_326 : decode cL_law 326 = .ok (.iaload, 1) := by decide +kernel
theorem dL_law_327 : decode cL_law 327 = .ok (.aload_n 0, 1) := by decide +kernel
theorem dL_law_328 : decode cL_law 328 = .ok (.iload_n 3, 1) := by decide +kernel
theorem dL_law_329 : decode cL_law 329 = .ok (.iconst 4, 1) := by decide +kernel
theorem dL_law_330 : decode cL_law 330 = .ok (.iadd, 1) := by decide +kernel
theorem dL_law_331 : decode cL_law 331 = .ok (.iaload, 1) := by decide +kernel
theorem dL_law_332 : decode cL_law 332 = .ok (.invokevirtual 32, 3) := by decide +kernel
theorem dL_law_335 : decode cL_law 335 = .ok (.if_icmp .eq 1010, 3) := by decide +kernel
theorem dL_law_338 : decode cL_law 338 = .ok (.iconst 0, 1) := by decide +kernel
theorem dL_law_339 : decode cL_law 339 = .ok (.ireturn, 1) := by decide +kernel
theorem dL_law_340 : decode cL_law 340 = .ok (.aload_n 1, 1) := by decide +kernel
theorem dL_law_341 : decode cL_law 341 = .ok (.aload_n 0, 1) := by decide +kernel
theorem dL_law_342 : decode cL_law 342 = .ok (.iload_n 3, 1) := by decide +kernel
theorem dL_law_343 : decode cL_law 343 = .ok (.iconst 1, 1) := by decide +kernel
theorem dL_law_344 : decode cL_law 344 = .ok (.iadd, 1) := by decide +kernel
theorem dL_law_345 : decode cL_law 345 = .ok (.iaload, 1) := by decide +kernel
theorem dL_law_346 : decode cL_law 346 = .ok (.aload_n 0, 1) := by decide +kernel
theorem dL_law_347 : decode cL_law 347 = .ok (.iload_n 3, 1) := by decide +kernel
theorem dL_law_348 : decode cL_law 348 = .ok (.iconst 2, 1) := by decide +kernel
theorem dL_law_349 : decode cL_law 349 = .ok (.iadd, 1) := by decide +kernel
theorem dL_law_350 : decode cL_law 350 = .ok (.iaload, 1) := by decide +kernel
theorem dL_law_351 : decode cL_law 351 = .ok (.aload_n 0, 1) := by decide +kernel
theorem dL_law_352 : decode cL_law 352 = .ok (.iload_n 3, 1) := by decide +kernel
theorem dL_law_353 : decode cL_law 353 = .ok (.iconst 3, 1) := by decide +kernel
theorem dL_law_354 : decode cL_law 354 = .ok (.iadd, 1) := by decide +kernel
theorem dL_law_355 : decode cL_law 355 = .ok (.iaload, 1) := by decide +kernel
theorem dL_law_356 : decode cL_law 356 = .ok (.ifCond .eq 7, 3) := by decide +kernel
theorem dL_law_359 : decode cL_law 359 = .ok (.iconst 1, 1) := by decide +kernel
theorem dL_law_360 : decode cL_law 360 = .ok (.goto 4, 3) := by decide +kernel
theorem dL_law_363 : decode cL_law 363 = .ok (.iconst 0, 1) := by decide +kernel
theorem dL_law_364 : decode cL_law 364 = .ok (.aload_n 0, 1) := by decide +kernel
theorem dL_law_365 : decode cL_law 365 = .ok (.iload_n 3, 1) := by decide +kernel
theorem dL_law_366 : decode cL_law 366 = .ok (.iconst 4, 1) := by decide +kernel
theorem dL_law_367 : decode cL_law 367 = .ok (.iadd, 1) := by decide +kernel
theorem dL_law_368 : decode cL_law 368 = .ok (.iaload, 1) := by decide +kernel
theorem dL_law_369 : decode cL_law 369 = .ok (.aload_n 0, 1) := by decide +kernel
theorem dL_law_370 : decode cL_law 370 = .ok (.iload_n 3, 1) := by decide +kernel
theorem dL_law_371 : decode cL_law 371 = .ok (.iconst 5, 1) := by decide +kernel
theorem dL_law_372 : decode cL_law 372 = .ok (.iadd, 1) := by decide +kernel
theorem dL_law_373 : decode cL_law 373 = .ok (.iaload, 1) := by decide +kernel
theorem dL_law_374 : decode cL_law 374 = .ok (.invokevirtual 33, 3) := by decide +kernel
theorem dL_law_377 : decode cL_law 377 = .ok (.aload_n 2, 1) := by decide +kernel
theorem dL_law_378 : decode cL_law 378 = .ok (.aload_n 0, 1) := by decide +kernel
theorem dL_law_379 : decode cL_law 379 = .ok (.iload_n 3, 1) := by decide +kernel
theorem dL_law_380 : decode cL_law 380 = .ok (.iconst 1, 1) := by decide +kernel
theorem dL_law_381 : decode cL_law 381 = .ok (.iadd, 1) := by decide +kernel
theorem dL_law_382 : decode cL_law 382 = .ok (.iaload, 1) := by decide +kernel
theorem dL_law_383 : decode cL_law 383 = .ok (.aload_n 0, 1) := by decide +kernel
theorem dL_law_384 : decode cL_law 384 = .ok (.iload_n 3, 1) := by decide +kernel
theorem dL_law_385 : decode cL_law 385 = .ok (.iconst 2, 1) := by decide +kernel
theorem dL_law_386 : decode cL_law 386 = .ok (.iadd, 1) := by decide +kernel
theorem dL_law_387 : decode cL_law 387 = .ok (.iaload, 1) := by decide +kernel
theorem dL_law_388 : decode cL_law 388 = .ok (.aload_n 0, 1) := by decide +kernel
theorem dL_law_389 : decode cL_law 389 = .ok (.iload_n 3, 1) := by decide +kernel
theorem dL_law_390 : decode cL_law 390 = .ok (.iconst 3, 1) := by decide +kernel
theorem dL_law_391 : decode cL_law 391 = .ok (.iadd, 1) := by decide +kernel
theorem dL_law_392 : decode cL_law 392 = .ok (.iaload, 1) := by decide +kernel
theorem dL_law_393 : decode cL_law 393 = .ok (.ifCond .eq 7, 3) := by decide +kernel
theorem dL_law_396 : decode cL_law 396 = .ok (.iconst 1, 1) := by decide +kernel
theorem dL_law_397 : decode cL_law 397 = .ok (.goto 4, 3) := by decide +kernel
theorem dL_law_400 : decode cL_law 400 = .ok (.iconst 0, 1) := by decide +kernel
theorem dL_law_401 : decode cL_law 401 = .ok (.aload_n 0, 1) := by decide +kernel
theorem dL_law_402 : decode cL_law 402 = .ok (.iload_n 3, 1) := by decide +kernel
theorem dL_law_403 : decode cL_law 403 = .ok (.iconst 4, 1) := by decide +kernel
theorem dL_law_404 : decode cL_law 404 = .ok (.iadd, 1) := by decide +kernel
theorem dL_law_405 : decode cL_law 405 = .ok (.iaload, 1) := by decide +kernel
theorem dL_law_406 : decode cL_law 406 = .ok (.aload_n 0, 1) := by decide +kernel
theorem dL_law_407 : decode cL_law 407 = .ok (.iload_n 3, 1) := by decide +kernel
theorem dL_law_408 : decode cL_law 408 = .ok (.iconst 5, 1) := by decide +kernel
theorem dL_law_409 : decode cL_law 409 = .ok (.iadd, 1) := by decide +kernel
theorem dL_law_410 : decode cL_law 410 = .ok (.iaload, 1) := by decide +kernel
theorem dL_law_411 : decode cL_law 411 = .ok (.invokevirtual 37, 3) := by decide +kernel
theorem dL_law_414 : decode cL_law 414 = .ok (.if_icmp .eq 931, 3) := by decide +kernel
theorem dL_law_417 : decode cL_law 417 = .ok (.iconst 0, 1) := by decide +kernel
theorem dL_law_418 : decode cL_law 418 = .ok (.ireturn, 1) := by decide +kernel
theorem dL_law_419 : decode cL_law 419 = .ok (.aload_n 1, 1) := by decide +kernel
theorem dL_law_420 : decode cL_law 420 = .ok (.aload_n 0, 1) := by decide +kernel
theorem dL_law_421 : decode cL_law 421 = .ok (.iload_n 3, 1) := by decide +kernel
theorem dL_law_422 : decode cL_law 422 = .ok (.iconst 1, 1) := by decide +kernel
theorem dL_law_423 : decode cL_law 423 = .ok (.iadd, 1) := by decide +kernel
theorem dL_law_424 : decode cL_law 424 = .ok (.iaload, 1) := by decide +kernel
theorem dL_law_425 : decode cL_law 425 = .ok (.aload_n 0, 1) := by decide +kernel
theorem dL_law_426 : decode cL_law 426 = .ok (.iload_n 3, 1) := by decide +kernel
theorem dL_law_427 : decode cL_law 427 = .ok (.iconst 2, 1) := by decide +kernel
theorem dL_law_428 : decode cL_law 428 = .ok (.iadd, 1) := by decide +kernel
theorem dL_law_429 : decode cL_law 429 = .ok (.iaload, 1) := by decide +kernel
theorem dL_law_430 : decode cL_law 430 = .ok (.aload_n 0, 1) := by decide +kernel
theorem dL_law_431 : decode cL_law 431 = .ok (.iload_n 3, 1) := by decide +kernel
theorem dL_law_432 : decode cL_law 432 = .ok (.iconst 3, 1) := by decide +kernel
theorem dL_law_433 : decode cL_law 433 = .ok (.iadd, 1) := by decide +kernel
theorem dL_law_434 : decode cL_law 434 = .ok (.iaload, 1) := by decide +kernel
theorem dL_law_435 : decode cL_law 435 = .ok (.aload_n 0, 1) := by decide +kernel
theorem dL_law_436 : decode cL_law 436 = .ok (.iload_n 3, 1) := by decide +kernel
theorem dL_law_437 : decode cL_law 437 = .ok (.iconst 4, 1) := by decide +kernel
theorem dL_law_438 : decode cL_law 438 = .ok (.iadd, 1) := by decide +kernel
theorem dL_law_439 : decode cL_law 439 = .ok (.iaload, 1) := by decide +kernel
theorem dL_law_440 : decode cL_law 440 = .ok (.invokevirtual 38, 3) := by decide +kernel
theorem dL_law_443 : decode cL_law 443 = .ok (.aload_n 2, 1) := by decide +kernel
theorem dL_law_444 : decode cL_law 444 = .ok (.aload_n 0, 1) := by decide +kernel
theorem dL_law_445 : decode cL_law 445 = .ok (.iload_n 3, 1) := by decide +kernel
theorem dL_law_446 : decode cL_law 446 = .ok (.iconst 1, 1) := by decide +kernel
theorem dL_law_447 : decode cL_law 447 = .ok (.iadd, 1) := by decide +kernel
theorem dL_law_448 : decode cL_law 448 = .ok (.iaload, 1) := by decide +kernel
theorem dL_law_449 : decode cL_law 449 = .ok (.aload_n 0, 1) := by decide +kernel
theorem dL_law_450 : decode cL_law 450 = .ok (.iload_n 3, 1) := by decide +kernel
theorem dL_law_451 : decode cL_law 451 = .ok (.iconst 2, 1) := by decide +kernel
theorem dL_law_452 : decode cL_law 452 = .ok (.iadd, 1) := by decide +kernel
theorem dL_law_453 : decode cL_law 453 = .ok (.iaload, 1) := by decide +kernel
theorem dL_law_454 : decode cL_law 454 = .ok (.aload_n 0, 1) := by decide +kernel
theorem dL_law_455 : decode cL_law 455 = .ok (.iload_n 3, 1) := by decide +kernel
theorem dL_law_456 : decode cL_law 456 = .ok (.iconst 3, 1) := by decide +kernel
theorem dL_law_457 : decode cL_law 457 = .ok (.iadd, 1) := by decide +kernel
theorem dL_law_458 : decode cL_law 458 = .ok (.iaload, 1) := by decide +kernel
theorem dL_law_459 : decode cL_law 459 = .ok (.aload_n 0, 1) := by decide +kernel
theorem dL_law_460 : decode cL_law 460 = .ok (.iload_n 3, 1) := by decide +kernel
theorem dL_law_461 : decode cL_law 461 = .ok (.iconst 4, 1) := by decide +kernel
theorem dL_law_462 : decode cL_law 462 = .ok (.iadd, 1) := by decide +kernel
theorem dL_law_463 : decode cL_law 463 = .ok (.iaload, 1) := by decide +kernel
theorem dL_law_464 : decode cL_law 464 = .ok (.invokevirtual 41, 3) := by decide +kernel
theorem dL_law_467 : decode cL_law 467 = .ok (.if_icmp .eq 878, 3) := by decide +kernel
theorem dL_law_470 : decode cL_law 470 = .ok (.iconst 0, 1) := by decide +kernel
theorem dL_law_471 : decode cL_law 471 = .ok (.ireturn, 1) := by decide +kernel
theorem dL_law_472 : decode cL_law 472 = .ok (.aload_n 1, 1) := by decide +kernel
theorem dL_law_473 : decode cL_law 473 = .ok (.aload_n 0, 1) := by decide +kernel
theorem dL_law_474 : decode cL_law 474 = .ok (.iload_n 3, 1) := by decide +kernel
theorem dL_law_475 : decode cL_law 475 = .ok (.iconst 1, 1) := by decide +kernel
theorem dL_law_476 : decode cL_law 476 = .ok (.iadd, 1) := by decide +kernel
theorem dL_law_477 : decode cL_law 477 = .ok (.iaload, 1) := by decide +kernel
theorem dL_law_478 : decode cL_law 478 = .ok (.aload_n 0, 1) := by decide +kernel
theorem dL_law_479 : decode cL_law 479 = .ok (.iload_n 3, 1) := by decide +kernel
theorem dL_law_480 : decode cL_law 480 = .ok (.iconst 2, 1) := by decide +kernel
theorem dL_law_481 : decode cL_law 481 = .ok (.iadd, 1) := by decide +kernel
theorem dL_law_482 : decode cL_law 482 = .ok (.iaload, 1) := by decide +kernel
theorem dL_law_483 : decode cL_law 483 = .ok (.invokevirtual 42, 3) := by decide +kernel
theorem dL_law_486 : decode cL_law 486 = .ok (.aload_n 2, 1) := by decide +kernel
theorem dL_law_487 : decode cL_law 487 = .ok (.aload_n 0, 1) := by decide +kernel
theorem dL_law_488 : decode cL_law 488 = .ok (.iload_n 3, 1) := by decide +kernel
theorem dL_law_489 : decode cL_law 489 = .ok (.iconst 1, 1) := by decide +kernel
theorem dL_law_490 : decode cL_law 490 = .ok (.iadd, 1) := by decide +kernel
theorem dL_law_491 : decode cL_law 491 = .ok (.iaload, 1) := by decide +kernel
theorem dL_law_492 : decode cL_law 492 = .ok (.aload_n 0, 1) := by decide +kernel
theorem dL_law_493 : decode cL_law 493 = .ok (.iload_n 3, 1) := by decide +kernel
theorem dL_law_494 : decode cL_law 494 = .ok (.iconst 2, 1) := by decide +kernel
theorem dL_law_495 : decode cL_law 495 = .ok (.iadd, 1) := by decide +kernel
theorem dL_law_496 : decode cL_law 496 = .ok (.iaload, 1) := by decide +kernel
theorem dL_law_497 : decode cL_law 497 = .ok (.invokevirtual 45, 3) := by decide +kernel
theorem dL_law_500 : decode cL_law 500 = .ok (.if_icmp .eq 845, 3) := by decide +kernel
theorem dL_law_503 : decode cL_law 503 = .ok (.iconst 0, 1) := by decide +kernel
theorem dL_law_504 : decode cL_law 504 = .ok (.ireturn, 1) := by decide +kernel
theorem dL_law_505 : decode cL_law 505 = .ok (.aload_n 1, 1) := by decide +kernel
theorem dL_law_506 : decode cL_law 506 = .ok (.aload_n 0, 1) := by decide +kernel
theorem dL_law_507 : decode cL_law 507 = .ok (.iload_n 3, 1) := by decide +kernel
theorem dL_law_508 : decode cL_law 508 = .ok (.iconst 1, 1) := by decide +kernel
theorem dL_law_509 : decode cL_law 509 = .ok (.iadd, 1) := by decide +kernel
theorem dL_law_510 : decode cL_law 510 = .ok (.iaload, 1) := by decide +kernel
theorem dL_law_511 : decode cL_law 511 = .ok (.aload_n 0, 1) := by decide +kernel
theorem dL_law_512 : decode cL_law 512 = .ok (.iload_n 3, 1) := by decide +kernel
theorem dL_law_513 : decode cL_law 513 = .ok (.iconst 2, 1) := by decide +kernel
theorem dL_law_514 : decode cL_law 514 = .ok (.iadd, 1) := by decide +kernel
theorem dL_law_515 : decode cL_law 515 = .ok (.iaload, 1) := by decide +kernel
theorem dL_law_516 : decode cL_law 516 = .ok (.aload_n 0, 1) := by decide +kernel
theorem dL_law_517 : decode cL_law 517 = .ok (.iload_n 3, 1) := by decide +kernel
theorem dL_law_518 : decode cL_law 518 = .ok (.iconst 3, 1) := by decide +kernel
theorem dL_law_519 : decode cL_law 519 = .ok (.iadd, 1) := by decide +kernel
theorem dL_law_520 : decode cL_law 520 = .ok (.iaload, 1) := by decide +kernel
theorem dL_law_521 : decode cL_law 521 = .ok (.aload_n 0, 1) := by decide +kernel
theorem dL_law_522 : decode cL_law 522 = .ok (.iload_n 3, 1) := by decide +kernel
theorem dL_law_523 : decode cL_law 523 = .ok (.iconst 4, 1) := by decide +kernel
theorem dL_law_524 : decode cL_law 524 = .ok (.iadd, 1) := by decide +kernel
theorem dL_law_525 : decode cL_law 525 = .ok (.iaload, 1) := by decide +kernel
theorem dL_law_526 : decode cL_law 526 = .ok (.invokevirtual 46, 3) := by decide +kernel
theorem dL_law_529 : decode cL_law 529 = .ok (.aload_n 2, 1) := by decide +kernel
theorem dL_law_530 : decode cL_law 530 = .ok (.aload_n 0, 1) := by decide +kernel
theorem dL_law_531 : decode cL_law 531 = .ok (.iload_n 3, 1) := by decide +kernel
theorem dL_law_532 : decode cL_law 532 = .ok (.iconst 1, 1) := by decide +kernel
theorem dL_law_533 : decode cL_law 533 = .ok (.iadd, 1) := by decide +kernel
theorem dL_law_534 : decode cL_law 534 = .ok (.iaload, 1) := by decide +kernel
theorem dL_law_535 : decode cL_law 535 = .ok (.aload_n 0, 1) := by decide +kernel
theorem dL_law_536 : decode cL_law 536 = .ok (.iload_n 3, 1) := by decide +kernel
theorem dL_law_537 : decode cL_law 537 = .ok (.iconst 2, 1) := by decide +kernel
theorem dL_law_538 : decode cL_law 538 = .ok (.iadd, 1) := by decide +kernel
theorem dL_law_539 : decode cL_law 539 = .ok (.iaload, 1) := by decide +kernel
theorem dL_law_540 : decode cL_law 540 = .ok (.aload_n 0, 1) := by decide +kernel
theorem dL_law_541 : decode cL_law 541 = .ok (.iload_n 3, 1) := by decide +kernel
theorem dL_law_542 : decode cL_law 542 = .ok (.iconst 3, 1) := by decide +kernel
theorem dL_law_543 : decode cL_law 543 = .ok (.iadd, 1) := by decide +kernel
theorem dL_law_544 : decode cL_law 544 = .ok (.iaload, 1) := by decide +kernel
theorem dL_law_545 : decode cL_law 545 = .ok (.aload_n 0, 1) := by decide +kernel
theorem dL_law_546 : decode cL_law 546 = .ok (.iload_n 3, 1) := by decide +kernel
theorem dL_law_547 : decode cL_law 547 = .ok (.iconst 4, 1) := by decide +kernel
theorem dL_law_548 : decode cL_law 548 = .ok (.iadd, 1) := by decide +kernel
theorem dL_law_549 : decode cL_law 549 = .ok (.iaload, 1) := by decide +kernel
theorem dL_law_550 : decode cL_law 550 = .ok (.invokevirtual 49, 3) := by decide +kernel
theorem dL_law_553 : decode cL_law 553 = .ok (.if_icmp .eq 792, 3) := by decide +kernel
theorem dL_law_556 : decode cL_law 556 = .ok (.iconst 0, 1) := by decide +kernel
theorem dL_law_557 : decode cL_law 557 = .ok (.ireturn, 1) := by decide +kernel
theorem dL_law_558 : decode cL_law 558 = .ok (.aload_n 1, 1) := by decide +kernel
theorem dL_law_559 : decode cL_law 559 = .ok (.aload_n 0, 1) := by decide +kernel
theorem dL_law_560 : decode cL_law 560 = .ok (.iload_n 3, 1) := by decide +kernel
theorem dL_law_561 : decode cL_law 561 = .ok (.iconst 1, 1) := by decide +kernel
theorem dL_law_562 : decode cL_law 562 = .ok (.iadd, 1) := by decide +kernel
theorem dL_law_563 : decode cL_law 563 = .ok (.iaload, 1) := by decide +kernel
theorem dL_law_564 : decode cL_law 564 = .ok (.aload_n 0, 1) := by decide +kernel
theorem dL_law_565 : decode cL_law 565 = .ok (.iload_n 3, 1) := by decide +kernel
theorem dL_law_566 : decode cL_law 566 = .ok (.iconst 2, 1) := by decide +kernel
theorem dL_law_567 : decode cL_law 567 = .ok (.iadd, 1) := by decide +kernel
theorem dL_law_568 : decode cL_law 568 = .ok (.iaload, 1) := by decide +kernel
theorem dL_law_569 : decode cL_law 569 = .ok (.invokevirtual 50, 3) := by decide +kernel
theorem dL_law_572 : decode cL_law 572 = .ok (.aload_n 2, 1) := by decide +kernel
theorem dL_law_573 : decode cL_law 573 = .ok (.aload_n 0, 1) := by decide +kernel
theorem dL_law_574 : decode cL_law 574 = .ok (.iload_n 3, 1) := by decide +kernel
theorem dL_law_575 : decode cL_law 575 = .ok (.iconst 1, 1) := by decide +kernel
theorem dL_law_576 : decode cL_law 576 = .ok (.iadd, 1) := by decide +kernel
theorem dL_law_577 : decode cL_law 577 = .ok (.iaload, 1) := by decide +kernel
theorem dL_law_578 : decode cL_law 578 = .ok (.aload_n 0, 1) := by decide +kernel
theorem dL_law_579 : decode cL_law 579 = .ok (.iload_n 3, 1) := by decide +kernel
theorem dL_law_580 : decode cL_law 580 = .ok (.iconst 2, 1) := by decide +kernel
theorem dL_law_581 : decode cL_law 581 = .ok (.iadd, 1) := by decide +kernel
theorem dL_law_582 : decode cL_law 582 = .ok (.iaload, 1) := by decide +kernel
theorem dL_law_583 : decode cL_law 583 = .ok (.invokevirtual 53, 3) := by decide +kernel
theorem dL_law_586 : decode cL_law 586 = .ok (.if_icmp .eq 759, 3) := by decide +kernel
theorem dL_law_589 : decode cL_law 589 = .ok (.iconst 0, 1) := by decide +kernel
theorem dL_law_590 : decode cL_law 590 = .ok (.ireturn, 1) := by decide +kernel
theorem dL_law_591 : decode cL_law 591 = .ok (.aload_n 1, 1) := by decide +kernel
theorem dL_law_592 : decode cL_law 592 = .ok (.aload_n 0, 1) := by decide +kernel
theorem dL_law_593 : decode cL_law 593 = .ok (.iload_n 3, 1) := by decide +kernel
theorem dL_law_594 : decode cL_law 594 = .ok (.iconst 1, 1) := by decide +kernel
theorem dL_law_595 : decode cL_law 595 = .ok (.iadd, 1) := by decide +kernel
theorem dL_law_596 : decode cL_law 596 = .ok (.iaload, 1) := by decide +kernel
theorem dL_law_597 : decode cL_law 597 = .ok (.aload_n 0, 1) := by decide +kernel
theorem dL_law_598 : decode cL_law 598 = .ok (.iload_n 3, 1) := by decide +kernel
theorem dL_law_599 : decode cL_law 599 = .ok (.iconst 2, 1) := by decide +kernel
theorem dL_law_600 : decode cL_law 600 = .ok (.iadd, 1) := by decide +kernel
theorem dL_law_601 : decode cL_law 601 = .ok (.iaload, 1) := by decide +kernel
theorem dL_law_602 : decode cL_law 602 = .ok (.invokevirtual 54, 3) := by decide +kernel
theorem dL_law_605 : decode cL_law 605 = .ok (.aload_n 2, 1) := by decide +kernel
theorem dL_law_606 : decode cL_law 606 = .ok (.aload_n 0, 1) := by decide +kernel
theorem dL_law_607 : decode cL_law 607 = .ok (.iload_n 3, 1) := by decide +kernel
theorem dL_law_608 : decode cL_law 608 = .ok (.iconst 1, 1) := by decide +kernel
theorem dL_law_609 : decode cL_law 609 = .ok (.iadd, 1) := by decide +kernel
theorem dL_law_610 : decode cL_law 610 = .ok (.iaload, 1) := by decide +kernel
theorem dL_law_611 : decode cL_law 611 = .ok (.aload_n 0, 1) := by decide +kernel
theorem dL_law_612 : decode cL_law 612 = .ok (.iload_n 3, 1) := by decide +kernel
theorem dL_law_613 : decode cL_law 613 = .ok (.iconst 2, 1) := by decide +kernel
theorem dL_law_614 : decode cL_law 614 = .ok (.iadd, 1) := by decide +kernel
theorem dL_law_615 : decode cL_law 615 = .ok (.iaload, 1) := by decide +kernel
theorem dL_law_616 : decode cL_law 616 = .ok (.invokevirtual 57, 3) := by decide +kernel
theorem dL_law_619 : decode cL_law 619 = .ok (.if_icmp .eq 726, 3) := by decide +kernel
theorem dL_law_622 : decode cL_law 622 = .ok (.iconst 0, 1) := by decide +kernel
theorem dL_law_623 : decode cL_law 623 = .ok (.ireturn, 1) := by decide +kernel
theorem dL_law_624 : decode cL_law 624 = .ok (.aload_n 1, 1) := by decide +kernel
theorem dL_law_625 : decode cL_law 625 = .ok (.aload_n 0, 1) := by decide +kernel
theorem dL_law_626 : decode cL_law 626 = .ok (.iload_n 3, 1) := by decide +kernel
theorem dL_law_627 : decode cL_law 627 = .ok (.iconst 1, 1) := by decide +kernel
theorem dL_law_628 : decode cL_law 628 = .ok (.iadd, 1) := by decide +kernel
theorem dL_law_629 : decode cL_law 629 = .ok (.iaload, 1) := by decide +kernel
theorem dL_law_630 : decode cL_law 630 = .ok (.aload_n 0, 1) := by decide +kernel
theorem dL_law_631 : decode cL_law 631 = .ok (.iload_n 3, 1) := by decide +kernel
theorem dL_law_632 : decode cL_law 632 = .ok (.iconst 2, 1) := by decide +kernel
theorem dL_law_633 : decode cL_law 633 = .ok (.iadd, 1) := by decide +kernel
theorem dL_law_634 : decode cL_law 634 = .ok (.iaload, 1) := by decide +kernel
theorem dL_law_635 : decode cL_law 635 = .ok (.invokevirtual 58, 3) := by decide +kernel
theorem dL_law_638 : decode cL_law 638 = .ok (.aload_n 2, 1) := by decide +kernel
theorem dL_law_639 : decode cL_law 639 = .ok (.aload_n 0, 1) := by decide +kernel
theorem dL_law_640 : decode cL_law 640 = .ok (.iload_n 3, 1) := by decide +kernel
theorem dL_law_641 : decode cL_law 641 = .ok (.iconst 1, 1) := by decide +kernel
theorem dL_law_642 : decode cL_law 642 = .ok (.iadd, 1) := by decide +kernel
theorem dL_law_643 : decode cL_law 643 = .ok (.iaload, 1) := by decide +kernel
theorem dL_law_644 : decode cL_law 644 = .ok (.aload_n 0, 1) := by decide +kernel
theorem dL_law_645 : decode cL_law 645 = .ok (.iload_n 3, 1) := by decide +kernel
theorem dL_law_646 : decode cL_law 646 = .ok (.iconst 2, 1) := by decide +kernel
theorem dL_law_647 : decode cL_law 647 = .ok (.iadd, 1) := by decide +kernel
theorem dL_law_648 : decode cL_law 648 = .ok (.iaload, 1) := by decide +kernel
theorem dL_law_649 : decode cL_law 649 = .ok (.invokevirtual 61, 3) := by decide +kernel
theorem dL_law_652 : decode cL_law 652 = .ok (.if_icmp .eq 693, 3) := by decide +kernel
theorem dL_law_655 : decode cL_law 655 = .ok (.iconst 0, 1) := by decide +kernel
theorem dL_law_656 : decode cL_law 656 = .ok (.ireturn, 1) := by decide +kernel
theorem dL_law_657 : decode cL_law 657 = .ok (.aload_n 1, 1) := by decide +kernel
theorem dL_law_658 : decode cL_law 658 = .ok (.aload_n 0, 1) := by decide +kernel
theorem dL_law_659 : decode cL_law 659 = .ok (.iload_n 3, 1) := by decide +kernel
theorem dL_law_660 : decode cL_law 660 = .ok (.iconst 1, 1) := by decide +kernel
theorem dL_law_661 : decode cL_law 661 = .ok (.iadd, 1) := by decide +kernel
theorem dL_law_662 : decode cL_law 662 = .ok (.iaload, 1) := by decide +kernel
theorem dL_law_663 : decode cL_law 663 = .ok (.invokevirtual 62, 3) := by decide +kernel
theorem dL_law_666 : decode cL_law 666 = .ok (.aload_n 2, 1) := by decide +kernel
theorem dL_law_667 : decode cL_law 667 = .ok (.aload_n 0, 1) := by decide +kernel
theorem dL_law_668 : decode cL_law 668 = .ok (.iload_n 3, 1) := by decide +kernel
theorem dL_law_669 : decode cL_law 669 = .ok (.iconst 1, 1) := by decide +kernel
theorem dL_law_670 : decode cL_law 670 = .ok (.iadd, 1) := by decide +kernel
theorem dL_law_671 : decode cL_law 671 = .ok (.iaload, 1) := by decide +kernel
theorem dL_law_672 : decode cL_law 672 = .ok (.invokevirtual 65, 3) := by decide +kernel
theorem dL_law_675 : decode cL_law 675 = .ok (.if_icmp .eq 670, 3) := by decide +kernel
theorem dL_law_678 : decode cL_law 678 = .ok (.iconst 0, 1) := by decide +kernel
theorem dL_law_679 : decode cL_law 679 = .ok (.ireturn, 1) := by decide +kernel
theorem dL_law_680 : decode cL_law 680 = .ok (.aload_n 1, 1) := by decide +kernel
theorem dL_law_681 : decode cL_law 681 = .ok (.aload_n 0, 1) := by decide +kernel
theorem dL_law_682 : decode cL_law 682 = .ok (.iload_n 3, 1) := by decide +kernel
theorem dL_law_683 : decode cL_law 683 = .ok (.iconst 1, 1) := by decide +kernel
theorem dL_law_684 : decode cL_law 684 = .ok (.iadd, 1) := by decide +kernel
theorem dL_law_685 : decode cL_law 685 = .ok (.iaload, 1) := by decide +kernel
theorem dL_law_686 : decode cL_law 686 = .ok (.aload_n 0, 1) := by decide +kernel
theorem dL_law_687 : decode cL_law 687 = .ok (.iload_n 3, 1) := by decide +kernel
theorem dL_law_688 : decode cL_law 688 = .ok (.iconst 2, 1) := by decide +kernel
theorem dL_law_689 : decode cL_law 689 = .ok (.iadd, 1) := by decide +kernel
theorem dL_law_690 : decode cL_law 690 = .ok (.iaload, 1) := by decide +kernel
theorem dL_law_691 : decode cL_law 691 = .ok (.aload_n 0, 1) := by decide +kernel
theorem dL_law_692 : decode cL_law 692 = .ok (.iload_n 3, 1) := by decide +kernel
theorem dL_law_693 : decode cL_law 693 = .ok (.iconst 3, 1) := by decide +kernel
theorem dL_law_694 : decode cL_law 694 = .ok (.iadd, 1) := by decide +kernel
theorem dL_law_695 : decode cL_law 695 = .ok (.iaload, 1) := by decide +kernel
theorem dL_law_696 : decode cL_law 696 = .ok (.aload_n 0, 1) := by decide +kernel
theorem dL_law_697 : decode cL_law 697 = .ok (.iload_n 3, 1) := by decide +kernel
theorem dL_law_698 : decode cL_law 698 = .ok (.iconst 4, 1) := by decide +kernel
theorem dL_law_699 : decode cL_law 699 = .ok (.iadd, 1) := by decide +kernel
theorem dL_law_700 : decode cL_law 700 = .ok (.iaload, 1) := by decide +kernel
theorem dL_law_701 : decode cL_law 701 = .ok (.aload_n 0, 1) := by decide +kernel
theorem dL_law_702 : decode cL_law 702 = .ok (.iload_n 3, 1) := by decide +kernel
theorem dL_law_703 : decode cL_law 703 = .ok (.iconst 5, 1) := by decide +kernel
theorem dL_law_704 : decode cL_law 704 = .ok (.iadd, 1) := by decide +kernel
theorem dL_law_705 : decode cL_law 705 = .ok (.iaload, 1) := by decide +kernel
theorem dL_law_706 : decode cL_law 706 = .ok (.aload_n 0, 1) := by decide +kernel
theorem dL_law_707 : decode cL_law 707 = .ok (.iload_n 3, 1) := by decide +kernel
theorem dL_law_708 : decode cL_law 708 = .ok (.bipush 6, 2) := by decide +kernel
theorem dL_law_710 : decode cL_law 710 = .ok (.iadd, 1) := by decide +kernel
theorem dL_law_711 : decode cL_law 711 = .ok (.iaload, 1) := by decide +kernel
theorem dL_law_712 : decode cL_law 712 = .ok (.invokevirtual 66, 3) := by decide +kernel
theorem dL_law_715 : decode cL_law 715 = .ok (.aload_n 2, 1) := by decide +kernel
theorem dL_law_716 : decode cL_law 716 = .ok (.aload_n 0, 1) := by decide +kernel
theorem dL_law_717 : decode cL_law 717 = .ok (.iload_n 3, 1) := by decide +kernel
theorem dL_law_718 : decode cL_law 718 = .ok (.iconst 1, 1) := by decide +kernel
theorem dL_law_719 : decode cL_law 719 = .ok (.iadd, 1) := by decide +kernel
theorem dL_law_720 : decode cL_law 720 = .ok (.iaload, 1) := by decide +kernel
theorem dL_law_721 : decode cL_law 721 = .ok (.aload_n 0, 1) := by decide +kernel
theorem dL_law_722 : decode cL_law 722 = .ok (.iload_n 3, 1) := by decide +kernel
theorem dL_law_723 : decode cL_law 723 = .ok (.iconst 2, 1) := by decide +kernel
theorem dL_law_724 : decode cL_law 724 = .ok (.iadd, 1) := by decide +kernel
theorem dL_law_725 : decode cL_law 725 = .ok (.iaload, 1) := by decide +kernel
theorem dL_law_726 : decode cL_law 726 = .ok (.aload_n 0, 1) := by decide +kernel
theorem dL_law_727 : decode cL_law 727 = .ok (.iload_n 3, 1) := by decide +kernel
theorem dL_law_728 : decode cL_law 728 = .ok (.iconst 3, 1) := by decide +kernel
theorem dL_law_729 : decode cL_law 729 = .ok (.iadd, 1) := by decide +kernel
theorem dL_law_730 : decode cL_law 730 = .ok (.iaload, 1) := by decide +kernel
theorem dL_law_731 : decode cL_law 731 = .ok (.aload_n 0, 1) := by decide +kernel
theorem dL_law_732 : decode cL_law 732 = .ok (.iload_n 3, 1) := by decide +kernel
theorem dL_law_733 : decode cL_law 733 = .ok (.iconst 4, 1) := by decide +kernel
theorem dL_law_734 : decode cL_law 734 = .ok (.iadd, 1) := by decide +kernel
theorem dL_law_735 : decode cL_law 735 = .ok (.iaload, 1) := by decide +kernel
theorem dL_law_736 : decode cL_law 736 = .ok (.aload_n 0, 1) := by decide +kernel
theorem dL_law_737 : decode cL_law 737 = .ok (.iload_n 3, 1) := by decide +kernel
theorem dL_law_738 : decode cL_law 738 = .ok (.iconst 5, 1) := by decide +kernel
theorem dL_law_739 : decode cL_law 739 = .ok (.iadd, 1) := by decide +kernel
theorem dL_law_740 : decode cL_law 740 = .ok (.iaload, 1) := by decide +kernel
theorem dL_law_741 : decode cL_law 741 = .ok (.aload_n 0, 1) := by decide +kernel
theorem dL_law_742 : decode cL_law 742 = .ok (.iload_n 3, 1) := by decide +kernel
theorem dL_law_743 : decode cL_law 743 = .ok (.bipush 6, 2) := by decide +kernel
theorem dL_law_745 : decode cL_law 745 = .ok (.iadd, 1) := by decide +kernel
theorem dL_law_746 : decode cL_law 746 = .ok (.iaload, 1) := by decide +kernel
theorem dL_law_747 : decode cL_law 747 = .ok (.invokevirtual 70, 3) := by decide +kernel
theorem dL_law_750 : decode cL_law 750 = .ok (.if_icmp .eq 595, 3) := by decide +kernel
theorem dL_law_753 : decode cL_law 753 = .ok (.iconst 0, 1) := by decide +kernel
theorem dL_law_754 : decode cL_law 754 = .ok (.ireturn, 1) := by decide +kernel
theorem dL_law_755 : decode cL_law 755 = .ok (.aload_n 1, 1) := by decide +kernel
theorem dL_law_756 : decode cL_law 756 = .ok (.aload_n 0, 1) := by decide +kernel
theorem dL_law_757 : decode cL_law 757 = .ok (.iload_n 3, 1) := by decide +kernel
theorem dL_law_758 : decode cL_law 758 = .ok (.iconst 1, 1) := by decide +kernel
theorem dL_law_759 : decode cL_law 759 = .ok (.iadd, 1) := by decide +kernel
theorem dL_law_760 : decode cL_law 760 = .ok (.iaload, 1) := by decide +kernel
theorem dL_law_761 : decode cL_law 761 = .ok (.aload_n 0, 1) := by decide +kernel
theorem dL_law_762 : decode cL_law 762 = .ok (.iload_n 3, 1) := by decide +kernel
theorem dL_law_763 : decode cL_law 763 = .ok (.iconst 2, 1) := by decide +kernel
theorem dL_law_764 : decode cL_law 764 = .ok (.iadd, 1) := by decide +kernel
theorem dL_law_765 : decode cL_law 765 = .ok (.iaload, 1) := by decide +kernel
theorem dL_law_766 : decode cL_law 766 = .ok (.aload_n 0, 1) := by decide +kernel
theorem dL_law_767 : decode cL_law 767 = .ok (.iload_n 3, 1) := by decide +kernel
theorem dL_law_768 : decode cL_law 768 = .ok (.iconst 3, 1) := by decide +kernel
theorem dL_law_769 : decode cL_law 769 = .ok (.iadd, 1) := by decide +kernel
theorem dL_law_770 : decode cL_law 770 = .ok (.iaload, 1) := by decide +kernel
theorem dL_law_771 : decode cL_law 771 = .ok (.invokevirtual 71, 3) := by decide +kernel
theorem dL_law_774 : decode cL_law 774 = .ok (.aload_n 2, 1) := by decide +kernel
theorem dL_law_775 : decode cL_law 775 = .ok (.aload_n 0, 1) := by decide +kernel
theorem dL_law_776 : decode cL_law 776 = .ok (.iload_n 3, 1) := by decide +kernel
theorem dL_law_777 : decode cL_law 777 = .ok (.iconst 1, 1) := by decide +kernel
theorem dL_law_778 : decode cL_law 778 = .ok (.iadd, 1) := by decide +kernel
theorem dL_law_779 : decode cL_law 779 = .ok (.iaload, 1) := by decide +kernel
theorem dL_law_780 : decode cL_law 780 = .ok (.aload_n 0, 1) := by decide +kernel
theorem dL_law_781 : decode cL_law 781 = .ok (.iload_n 3, 1) := by decide +kernel
theorem dL_law_782 : decode cL_law 782 = .ok (.iconst 2, 1) := by decide +kernel
theorem dL_law_783 : decode cL_law 783 = .ok (.iadd, 1) := by decide +kernel
theorem dL_law_784 : decode cL_law 784 = .ok (.iaload, 1) := by decide +kernel
theorem dL_law_785 : decode cL_law 785 = .ok (.aload_n 0, 1) := by decide +kernel
theorem dL_law_786 : decode cL_law 786 = .ok (.iload_n 3, 1) := by decide +kernel
theorem dL_law_787 : decode cL_law 787 = .ok (.iconst 3, 1) := by decide +kernel
theorem dL_law_788 : decode cL_law 788 = .ok (.iadd, 1) := by decide +kernel
theorem dL_law_789 : decode cL_law 789 = .ok (.iaload, 1) := by decide +kernel
theorem dL_law_790 : decode cL_law 790 = .ok (.invokevirtual 74, 3) := by decide +kernel
theorem dL_law_793 : decode cL_law 793 = .ok (.if_icmp .eq 552, 3) := by decide +kernel
theorem dL_law_796 : decode cL_law 796 = .ok (.iconst 0, 1) := by decide +kernel
theorem dL_law_797 : decode cL_law 797 = .ok (.ireturn, 1) := by decide +kernel
theorem dL_law_798 : decode cL_law 798 = .ok (.aload_n 1, 1) := by decide +kernel
theorem dL_law_799 : decode cL_law 799 = .ok (.invokevirtual 75, 3) := by decide +kernel
theorem dL_law_802 : decode cL_law 802 = .ok (.aload_n 2, 1) := by decide +kernel
theorem dL_law_803 : decode cL_law 803 = .ok (.invokevirtual 79, 3) := by decide +kernel
theorem dL_law_806 : decode cL_law 806 = .ok (.if_icmp .eq 539, 3) := by decide +kernel
theorem dL_law_809 : decode cL_law 809 = .ok (.iconst 0, 1) := by decide +kernel
theorem dL_law_810 : decode cL_law 810 = .ok (.ireturn, 1) := by decide +kernel
theorem dL_law_811 : decode cL_law 811 = .ok (.aload_n 1, 1) := by decide +kernel
theorem dL_law_812 : decode cL_law 812 = .ok (.invokevirtual 80, 3) := by decide +kernel
theorem dL_law_815 : decode cL_law 815 = .ok (.aload_n 2, 1) := by decide +kernel
theorem dL_law_816 : decode cL_law 816 = .ok (.invokevirtual 83, 3) := by decide +kernel
theorem dL_law_819 : decode cL_law 819 = .ok (.if_icmp .eq 526, 3) := by decide +kernel
theorem dL_law_822 : decode cL_law 822 = .ok (.iconst 0, 1) := by decide +kernel
theorem dL_law_823 : decode cL_law 823 = .ok (.ireturn, 1) := by decide +kernel
theorem dL_law_824 : decode cL_law 824 = .ok (.aload_n 1, 1) := by decide +kernel
theorem dL_law_825 : decode cL_law 825 = .ok (.invokevirtual 84, 3) := by decide +kernel
theorem dL_law_828 : decode cL_law 828 = .ok (.aload_n 2, 1) := by decide +kernel
theorem dL_law_829 : decode cL_law 829 = .ok (.invokevirtual 87, 3) := by decide +kernel
theorem dL_law_832 : decode cL_law 832 = .ok (.if_icmp .eq 513, 3) := by decide +kernel
theorem dL_law_835 : decode cL_law 835 = .ok (.iconst 0, 1) := by decide +kernel
theorem dL_law_836 : decode cL_law 836 = .ok (.ireturn, 1) := by decide +kernel
theorem dL_law_837 : decode cL_law 837 = .ok (.aload_n 1, 1) := by decide +kernel
theorem dL_law_838 : decode cL_law 838 = .ok (.aload_n 0, 1) := by decide +kernel
theorem dL_law_839 : decode cL_law 839 = .ok (.iload_n 3, 1) := by decide +kernel
theorem dL_law_840 : decode cL_law 840 = .ok (.iconst 1, 1) := by decide +kernel
theorem dL_law_841 : decode cL_law 841 = .ok (.iadd, 1) := by decide +kernel
theorem dL_law_842 : decode cL_law 842 = .ok (.iaload, 1) := by decide +kernel
theorem dL_law_843 : decode cL_law 843 = .ok (.invokevirtual 88, 3) := by decide +kernel
theorem dL_law_846 : decode cL_law 846 = .ok (.aload_n 2, 1) := by decide +kernel
theorem dL_law_847 : decode cL_law 847 = .ok (.aload_n 0, 1) := by decide +kernel
theorem dL_law_848 : decode cL_law 848 = .ok (.iload_n 3, 1) := by decide +kernel
theorem dL_law_849 : decode cL_law 849 = .ok (.iconst 1, 1) := by decide +kernel
theorem dL_law_850 : decode cL_law 850 = .ok (.iadd, 1) := by decide +kernel
theorem dL_law_851 : decode cL_law 851 = .ok (.iaload, 1) := by decide +kernel
theorem dL_law_852 : decode cL_law 852 = .ok (.invokevirtual 91, 3) := by decide +kernel
theorem dL_law_855 : decode cL_law 855 = .ok (.if_icmp .eq 490, 3) := by decide +kernel
theorem dL_law_858 : decode cL_law 858 = .ok (.iconst 0, 1) := by decide +kernel
theorem dL_law_859 : decode cL_law 859 = .ok (.ireturn, 1) := by decide +kernel
theorem dL_law_860 : decode cL_law 860 = .ok (.aload_n 1, 1) := by decide +kernel
theorem dL_law_861 : decode cL_law 861 = .ok (.aload_n 0, 1) := by decide +kernel
theorem dL_law_862 : decode cL_law 862 = .ok (.iload_n 3, 1) := by decide +kernel
theorem dL_law_863 : decode cL_law 863 = .ok (.iconst 1, 1) := by decide +kernel
theorem dL_law_864 : decode cL_law 864 = .ok (.iadd, 1) := by decide +kernel
theorem dL_law_865 : decode cL_law 865 = .ok (.iaload, 1) := by decide +kernel
theorem dL_law_866 : decode cL_law 866 = .ok (.invokevirtual 92, 3) := by decide +kernel
theorem dL_law_869 : decode cL_law 869 = .ok (.aload_n 2, 1) := by decide +kernel
theorem dL_law_870 : decode cL_law 870 = .ok (.aload_n 0, 1) := by decide +kernel
theorem dL_law_871 : decode cL_law 871 = .ok (.iload_n 3, 1) := by decide +kernel
theorem dL_law_872 : decode cL_law 872 = .ok (.iconst 1, 1) := by decide +kernel
theorem dL_law_873 : decode cL_law 873 = .ok (.iadd, 1) := by decide +kernel
theorem dL_law_874 : decode cL_law 874 = .ok (.iaload, 1) := by decide +kernel
theorem dL_law_875 : decode cL_law 875 = .ok (.invokevirtual 95, 3) := by decide +kernel
theorem dL_law_878 : decode cL_law 878 = .ok (.if_icmp .eq 467, 3) := by decide +kernel
theorem dL_law_881 : decode cL_law 881 = .ok (.iconst 0, 1) := by decide +kernel
theorem dL_law_882 : decode cL_law 882 = .ok (.ireturn, 1) := by decide +kernel
theorem dL_law_883 : decode cL_law 883 = .ok (.aload_n 1, 1) := by decide +kernel
theorem dL_law_884 : decode cL_law 884 = .ok (.aload_n 0, 1) := by decide +kernel
theorem dL_law_885 : decode cL_law 885 = .ok (.iload_n 3, 1) := by decide +kernel
theorem dL_law_886 : decode cL_law 886 = .ok (.iconst 1, 1) := by decide +kernel
theorem dL_law_887 : decode cL_law 887 = .ok (.iadd, 1) := by decide +kernel
theorem dL_law_888 : decode cL_law 888 = .ok (.iaload, 1) := by decide +kernel
theorem dL_law_889 : decode cL_law 889 = .ok (.aload_n 0, 1) := by decide +kernel
theorem dL_law_890 : decode cL_law 890 = .ok (.iload_n 3, 1) := by decide +kernel
theorem dL_law_891 : decode cL_law 891 = .ok (.iconst 2, 1) := by decide +kernel
theorem dL_law_892 : decode cL_law 892 = .ok (.iadd, 1) := by decide +kernel
theorem dL_law_893 : decode cL_law 893 = .ok (.iaload, 1) := by decide +kernel
theorem dL_law_894 : decode cL_law 894 = .ok (.aload_n 0, 1) := by decide +kernel
theorem dL_law_895 : decode cL_law 895 = .ok (.iload_n 3, 1) := by decide +kernel
theorem dL_law_896 : decode cL_law 896 = .ok (.iconst 3, 1) := by decide +kernel
theorem dL_law_897 : decode cL_law 897 = .ok (.iadd, 1) := by decide +kernel
theorem dL_law_898 : decode cL_law 898 = .ok (.iaload, 1) := by decide +kernel
theorem dL_law_899 : decode cL_law 899 = .ok (.invokevirtual 96, 3) := by decide +kernel
theorem dL_law_902 : decode cL_law 902 = .ok (.aload_n 2, 1) := by decide +kernel
theorem dL_law_903 : decode cL_law 903 = .ok (.aload_n 0, 1) := by decide +kernel
theorem dL_law_904 : decode cL_law 904 = .ok (.iload_n 3, 1) := by decide +kernel
theorem dL_law_905 : decode cL_law 905 = .ok (.iconst 1, 1) := by decide +kernel
theorem dL_law_906 : decode cL_law 906 = .ok (.iadd, 1) := by decide +kernel
theorem dL_law_907 : decode cL_law 907 = .ok (.iaload, 1) := by decide +kernel
theorem dL_law_908 : decode cL_law 908 = .ok (.aload_n 0, 1) := by decide +kernel
theorem dL_law_909 : decode cL_law 909 = .ok (.iload_n 3, 1) := by decide +kernel
theorem dL_law_910 : decode cL_law 910 = .ok (.iconst 2, 1) := by decide +kernel
theorem dL_law_911 : decode cL_law 911 = .ok (.iadd, 1) := by decide +kernel
theorem dL_law_912 : decode cL_law 912 = .ok (.iaload, 1) := by decide +kernel
theorem dL_law_913 : decode cL_law 913 = .ok (.aload_n 0, 1) := by decide +kernel
theorem dL_law_914 : decode cL_law 914 = .ok (.iload_n 3, 1) := by decide +kernel
theorem dL_law_915 : decode cL_law 915 = .ok (.iconst 3, 1) := by decide +kernel
theorem dL_law_916 : decode cL_law 916 = .ok (.iadd, 1) := by decide +kernel
theorem dL_law_917 : decode cL_law 917 = .ok (.iaload, 1) := by decide +kernel
theorem dL_law_918 : decode cL_law 918 = .ok (.invokevirtual 99, 3) := by decide +kernel
theorem dL_law_921 : decode cL_law 921 = .ok (.if_icmp .eq 424, 3) := by decide +kernel
theorem dL_law_924 : decode cL_law 924 = .ok (.iconst 0, 1) := by decide +kernel
theorem dL_law_925 : decode cL_law 925 = .ok (.ireturn, 1) := by decide +kernel
theorem dL_law_926 : decode cL_law 926 = .ok (.aload_n 1, 1) := by decide +kernel
theorem dL_law_927 : decode cL_law 927 = .ok (.aload_n 0, 1) := by decide +kernel
theorem dL_law_928 : decode cL_law 928 = .ok (.iload_n 3, 1) := by decide +kernel
theorem dL_law_929 : decode cL_law 929 = .ok (.iconst 1, 1) := by decide +kernel
theorem dL_law_930 : decode cL_law 930 = .ok (.iadd, 1) := by decide +kernel
theorem dL_law_931 : decode cL_law 931 = .ok (.iaload, 1) := by decide +kernel
theorem dL_law_932 : decode cL_law 932 = .ok (.aload_n 0, 1) := by decide +kernel
theorem dL_law_933 : decode cL_law 933 = .ok (.iload_n 3, 1) := by decide +kernel
theorem dL_law_934 : decode cL_law 934 = .ok (.iconst 2, 1) := by decide +kernel
theorem dL_law_935 : decode cL_law 935 = .ok (.iadd, 1) := by decide +kernel
theorem dL_law_936 : decode cL_law 936 = .ok (.iaload, 1) := by decide +kernel
theorem dL_law_937 : decode cL_law 937 = .ok (.aload_n 0, 1) := by decide +kernel
theorem dL_law_938 : decode cL_law 938 = .ok (.iload_n 3, 1) := by decide +kernel
theorem dL_law_939 : decode cL_law 939 = .ok (.iconst 3, 1) := by decide +kernel
theorem dL_law_940 : decode cL_law 940 = .ok (.iadd, 1) := by decide +kernel
theorem dL_law_941 : decode cL_law 941 = .ok (.iaload, 1) := by decide +kernel
theorem dL_law_942 : decode cL_law 942 = .ok (.ifCond .eq 7, 3) := by decide +kernel
theorem dL_law_945 : decode cL_law 945 = .ok (.iconst 1, 1) := by decide +kernel
theorem dL_law_946 : decode cL_law 946 = .ok (.goto 4, 3) := by decide +kernel
theorem dL_law_949 : decode cL_law 949 = .ok (.iconst 0, 1) := by decide +kernel
theorem dL_law_950 : decode cL_law 950 = .ok (.invokevirtual 100, 3) := by decide +kernel
theorem dL_law_953 : decode cL_law 953 = .ok (.aload_n 2, 1) := by decide +kernel
theorem dL_law_954 : decode cL_law 954 = .ok (.aload_n 0, 1) := by decide +kernel
theorem dL_law_955 : decode cL_law 955 = .ok (.iload_n 3, 1) := by decide +kernel
theorem dL_law_956 : decode cL_law 956 = .ok (.iconst 1, 1) := by decide +kernel
theorem dL_law_957 : decode cL_law 957 = .ok (.iadd, 1) := by decide +kernel
theorem dL_law_958 : decode cL_law 958 = .ok (.iaload, 1) := by decide +kernel
theorem dL_law_959 : decode cL_law 959 = .ok (.aload_n 0, 1) := by decide +kernel
theorem dL_law_960 : decode cL_law 960 = .ok (.iload_n 3, 1) := by decide +kernel
theorem dL_law_961 : decode cL_law 961 = .ok (.iconst 2, 1) := by decide +kernel
theorem dL_law_962 : decode cL_law 962 = .ok (.iadd, 1) := by decide +kernel
theorem dL_law_963 : decode cL_law 963 = .ok (.iaload, 1) := by decide +kernel
theorem dL_law_964 : decode cL_law 964 = .ok (.aload_n 0, 1) := by decide +kernel
theorem dL_law_965 : decode cL_law 965 = .ok (.iload_n 3, 1) := by decide +kernel
theorem dL_law_966 : decode cL_law 966 = .ok (.iconst 3, 1) := by decide +kernel
theorem dL_law_967 : decode cL_law 967 = .ok (.iadd, 1) := by decide +kernel
theorem dL_law_968 : decode cL_law 968 = .ok (.iaload, 1) := by decide +kernel
theorem dL_law_969 : decode cL_law 969 = .ok (.ifCond .eq 7, 3) := by decide +kernel
theorem dL_law_972 : decode cL_law 972 = .ok (.iconst 1, 1) := by decide +kernel
theorem dL_law_973 : decode cL_law 973 = .ok (.goto 4, 3) := by decide +kernel
theorem dL_law_976 : decode cL_law 976 = .ok (.iconst 0, 1) := by decide +kernel
theorem dL_law_977 : decode cL_law 977 = .ok (.invokevirtual 104, 3) := by decide +kernel
theorem dL_law_980 : decode cL_law 980 = .ok (.if_icmp .eq 365, 3) := by decide +kernel
theorem dL_law_983 : decode cL_law 983 = .ok (.iconst 0, 1) := by decide +kernel
theorem dL_law_984 : decode cL_law 984 = .ok (.ireturn, 1) := by decide +kernel
theorem dL_law_985 : decode cL_law 985 = .ok (.aload_n 1, 1) := by decide +kernel
theorem dL_law_986 : decode cL_law 986 = .ok (.aload_n 0, 1) := by decide +kernel
theorem dL_law_987 : decode cL_law 987 = .ok (.iload_n 3, 1) := by decide +kernel
theorem dL_law_988 : decode cL_law 988 = .ok (.iconst 1, 1) := by decide +kernel
theorem dL_law_989 : decode cL_law 989 = .ok (.iadd, 1) := by decide +kernel
theorem dL_law_990 : decode cL_law 990 = .ok (.iaload, 1) := by decide +kernel
theorem dL_law_991 : decode cL_law 991 = .ok (.aload_n 0, 1) := by decide +kernel
theorem dL_law_992 : decode cL_law 992 = .ok (.iload_n 3, 1) := by decide +kernel
theorem dL_law_993 : decode cL_law 993 = .ok (.iconst 2, 1) := by decide +kernel
theorem dL_law_994 : decode cL_law 994 = .ok (.iadd, 1) := by decide +kernel
theorem dL_law_995 : decode cL_law 995 = .ok (.iaload, 1) := by decide +kernel
theorem dL_law_996 : decode cL_law 996 = .ok (.aload_n 0, 1) := by decide +kernel
theorem dL_law_997 : decode cL_law 997 = .ok (.iload_n 3, 1) := by decide +kernel
theorem dL_law_998 : decode cL_law 998 = .ok (.iconst 3, 1) := by decide +kernel
theorem dL_law_999 : decode cL_law 999 = .ok (.iadd, 1) := by decide +kernel
theorem dL_law_1000 : decode cL_law 1000 = .ok (.iaload, 1) := by decide +kernel
theorem dL_law_1001 : decode cL_law 1001 = .ok (.aload_n 0, 1) := by decide +kernel
theorem dL_law_1002 : decode cL_law 1002 = .ok (.iload_n 3, 1) := by decide +kernel
theorem dL_law_1003 : decode cL_law 1003 = .ok (.iconst 4, 1) := by decide +kernel
theorem dL_law_1004 : decode cL_law 1004 = .ok (.iadd, 1) := by decide +kernel
theorem dL_law_1005 : decode cL_law 1005 = .ok (.iaload, 1) := by decide +kernel
theorem dL_law_1006 : decode cL_law 1006 = .ok (.aload_n 0, 1) := by decide +kernel
theorem dL_law_1007 : decode cL_law 1007 = .ok (.iload_n 3, 1) := by decide +kernel
theorem dL_law_1008 : decode cL_law 1008 = .ok (.iconst 5, 1) := by decide +kernel
theorem dL_law_1009 : decode cL_law 1009 = .ok (.iadd, 1) := by decide +kernel
theorem dL_law_1010 : decode cL_law 1010 = .ok (.iaload, 1) := by decide +kernel
theorem dL_law_1011 : decode cL_law 1011 = .ok (.ifCond .eq 7, 3) := by decide +kernel
theorem dL_law_1014 : decode cL_law 1014 = .ok (.iconst 1, 1) := by decide +kernel
theorem dL_law_1015 : decode cL_law 1015 = .ok (.goto 4, 3) := by decide +kernel
theorem dL_law_1018 : decode cL_law 1018 = .ok (.iconst 0, 1) := by decide +kernel
theorem dL_law_1019 : decode cL_law 1019 = .ok (.invokevirtual 105, 3) := by decide +kernel
theorem dL_law_1022 : decode cL_law 1022 = .ok (.aload_n 2, 1) := by decide +kernel
theorem dL_law_1023 : decode cL_law 1023 = .ok (.aload_n 0, 1) := by decide +kernel
theorem dL_law_1024 : decode cL_law 1024 = .ok (.iload_n 3, 1) := by decide +kernel
theorem dL_law_1025 : decode cL_law 1025 = .ok (.iconst 1, 1) := by decide +kernel
theorem dL_law_1026 : decode cL_law 1026 = .ok (.iadd, 1) := by decide +kernel
theorem dL_law_1027 : decode cL_law 1027 = .ok (.iaload, 1) := by decide +kernel
theorem dL_law_1028 : decode cL_law 1028 = .ok (.aload_n 0, 1) := by decide +kernel
theorem dL_law_1029 : decode cL_law 1029 = .ok (.iload_n 3, 1) := by decide +kernel
theorem dL_law_1030 : decode cL_law 1030 = .ok (.iconst 2, 1) := by decide +kernel
theorem dL_law_1031 : decode cL_law 1031 = .ok (.iadd, 1) := by decide +kernel
theorem dL_law_1032 : decode cL_law 1032 = .ok (.iaload, 1) := by decide +kernel
theorem dL_law_1033 : decode cL_law 1033 = .ok (.aload_n 0, 1) := by decide +kernel
theorem dL_law_1034 : decode cL_law 1034 = .ok (.iload_n 3, 1) := by decide +kernel
theorem dL_law_1035 : decode cL_law 1035 = .ok (.iconst 3, 1) := by decide +kernel
theorem dL_law_1036 : decode cL_law 1036 = .ok (.iadd, 1) := by decide +kernel
theorem dL_law_1037 : decode cL_law 1037 = .ok (.iaload, 1) := by decide +kernel
theorem dL_law_1038 : decode cL_law 1038 = .ok (.aload_n 0, 1) := by decide +kernel
theorem dL_law_1039 : decode cL_law 1039 = .ok (.iload_n 3, 1) := by decide +kernel
theorem dL_law_1040 : decode cL_law 1040 = .ok (.iconst 4, 1) := by decide +kernel
theorem dL_law_1041 : decode cL_law 1041 = .ok (.iadd, 1) := by decide +kernel
theorem dL_law_1042 : decode cL_law 1042 = .ok (.iaload, 1) := by decide +kernel
theorem dL_law_1043 : decode cL_law 1043 = .ok (.aload_n 0, 1) := by decide +kernel
theorem dL_law_1044 : decode cL_law 1044 = .ok (.iload_n 3, 1) := by decide +kernel
theorem dL_law_1045 : decode cL_law 1045 = .ok (.iconst 5, 1) := by decide +kernel
theorem dL_law_1046 : decode cL_law 1046 = .ok (.iadd, 1) := by decide +kernel
theorem dL_law_1047 : decode cL_law 1047 = .ok (.iaload, 1) := by decide +kernel
theorem dL_law_1048 : decode cL_law 1048 = .ok (.ifCond .eq 7, 3) := by decide +kernel
theorem dL_law_1051 : decode cL_law 1051 = .ok (.iconst 1, 1) := by decide +kernel
theorem dL_law_1052 : decode cL_law 1052 = .ok (.goto 4, 3) := by decide +kernel
theorem dL_law_1055 : decode cL_law 1055 = .ok (.iconst 0, 1) := by decide +kernel
theorem dL_law_1056 : decode cL_law 1056 = .ok (.invokevirtual 109, 3) := by decide +kernel
theorem dL_law_1059 : decode cL_law 1059 = .ok (.if_icmp .eq 286, 3) := by decide +kernel
theorem dL_law_1062 : decode cL_law 1062 = .ok (.iconst 0, 1) := by decide +kernel
theorem dL_law_1063 : decode cL_law 1063 = .ok (.ireturn, 1) := by decide +kernel
theorem dL_law_1064 : decode cL_law 1064 = .ok (.aload_n 1, 1) := by decide +kernel
theorem dL_law_1065 : decode cL_law 1065 = .ok (.aload_n 0, 1) := by decide +kernel
theorem dL_law_1066 : decode cL_law 1066 = .ok (.iload_n 3, 1) := by decide +kernel
theorem dL_law_1067 : decode cL_law 1067 = .ok (.iconst 1, 1) := by decide +kernel
theorem dL_law_1068 : decode cL_law 1068 = .ok (.iadd, 1) := by decide +kernel
theorem dL_law_1069 : decode cL_law 1069 = .ok (.iaload, 1) := by decide +kernel
theorem dL_law_1070 : decode cL_law 1070 = .ok (.invokevirtual 110, 3) := by decide +kernel
theorem dL_law_1073 : decode cL_law 1073 = .ok (.aload_n 2, 1) := by decide +kernel
theorem dL_law_1074 : decode cL_law 1074 = .ok (.aload_n 0, 1) := by decide +kernel
theorem dL_law_1075 : decode cL_law 1075 = .ok (.iload_n 3, 1) := by decide +kernel
theorem dL_law_1076 : decode cL_law 1076 = .ok (.iconst 1, 1) := by decide +kernel
theorem dL_law_1077 : decode cL_law 1077 = .ok (.iadd, 1) := by decide +kernel
theorem dL_law_1078 : decode cL_law 1078 = .ok (.iaload, 1) := by decide +kernel
theorem dL_law_1079 : decode cL_law 1079 = .ok (.invokevirtual 114, 3) := by decide +kernel
theorem dL_law_1082 : decode cL_law 1082 = .ok (.lcmp, 1) := by decide +kernel
theorem dL_law_1083 : decode cL_law 1083 = .ok (.ifCond .eq 262, 3) := by decide +kernel
theorem dL_law_1086 : decode cL_law 1086 = .ok (.iconst 0, 1) := by decide +kernel
theorem dL_law_1087 : decode cL_law 1087 = .ok (.ireturn, 1) := by decide +kernel
theorem dL_law_1088 : decode cL_law 1088 = .ok (.aload_n 1, 1) := by decide +kernel
theorem dL_law_1089 : decode cL_law 1089 = .ok (.aload_n 0, 1) := by decide +kernel
theorem dL_law_1090 : decode cL_law 1090 = .ok (.iload_n 3, 1) := by decide +kernel
theorem dL_law_1091 : decode cL_law 1091 = .ok (.iconst 1, 1) := by decide +kernel
theorem dL_law_1092 : decode cL_law 1092 = .ok (.iadd, 1) := by decide +kernel
theorem dL_law_1093 : decode cL_law 1093 = .ok (.iaload, 1) := by decide +kernel
theorem dL_law_1094 : decode cL_law 1094 = .ok (.aload_n 0, 1) := by decide +kernel
theorem dL_law_1095 : decode cL_law 1095 = .ok (.iload_n 3, 1) := by decide +kernel
theorem dL_law_1096 : decode cL_law 1096 = .ok (.iconst 2, 1) := by decide +kernel
theorem dL_law_1097 : decode cL_law 1097 = .ok (.iadd, 1) := by decide +kernel
theorem dL_law_1098 : decode cL_law 1098 = .ok (.iaload, 1) := by decide +kernel
theorem dL_law_1099 : decode cL_law 1099 = .ok (.invokevirtual 115, 3) := by decide +kernel
theorem dL_law_1102 : decode cL_law 1102 = .ok (.aload_n 2, 1) := by decide +kernel
theorem dL_law_1103 : decode cL_law 1103 = .ok (.aload_n 0, 1) := by decide +kernel
theorem dL_law_1104 : decode cL_law 1104 = .ok (.iload_n 3, 1) := by decide +kernel
theorem dL_law_1105 : decode cL_law 1105 = .ok (.iconst 1, 1) := by decide +kernel
theorem dL_law_1106 : decode cL_law 1106 = .ok (.iadd, 1) := by decide +kernel
theorem dL_law_1107 : decode cL_law 1107 = .ok (.iaload, 1) := by decide +kernel
theorem dL_law_1108 : decode cL_law 1108 = .ok (.aload_n 0, 1) := by decide +kernel
theorem dL_law_1109 : decode cL_law 1109 = .ok (.iload_n 3, 1) := by decide +kernel
theorem dL_law_1110 : decode cL_law 1110 = .ok (.iconst 2, 1) := by decide +kernel
theorem dL_law_1111 : decode cL_law 1111 = .ok (.iadd, 1) := by decide +kernel
theorem dL_law_1112 : decode cL_law 1112 = .ok (.iaload, 1) := by decide +kernel
theorem dL_law_1113 : decode cL_law 1113 = .ok (.invokevirtual 118, 3) := by decide +kernel
theorem dL_law_1116 : decode cL_law 1116 = .ok (.if_icmp .eq 229, 3) := by decide +kernel
theorem dL_law_1119 : decode cL_law 1119 = .ok (.iconst 0, 1) := by decide +kernel
theorem dL_law_1120 : decode cL_law 1120 = .ok (.ireturn, 1) := by decide +kernel
theorem dL_law_1121 : decode cL_law 1121 = .ok (.aload_n 1, 1) := by decide +kernel
theorem dL_law_1122 : decode cL_law 1122 = .ok (.aload_n 0, 1) := by decide +kernel
theorem dL_law_1123 : decode cL_law 1123 = .ok (.iload_n 3, 1) := by decide +kernel
theorem dL_law_1124 : decode cL_law 1124 = .ok (.iconst 1, 1) := by decide +kernel
theorem dL_law_1125 : decode cL_law 1125 = .ok (.iadd, 1) := by decide +kernel
theorem dL_law_1126 : decode cL_law 1126 = .ok (.iaload, 1) := by decide +kernel
theorem dL_law_1127 : decode cL_law 1127 = .ok (.aload_n 0, 1) := by decide +kernel
theorem dL_law_1128 : decode cL_law 1128 = .ok (.iload_n 3, 1) := by decide +kernel
theorem dL_law_1129 : decode cL_law 1129 = .ok (.iconst 2, 1) := by decide +kernel
theorem dL_law_1130 : decode cL_law 1130 = .ok (.iadd, 1) := by decide +kernel
theorem dL_law_1131 : decode cL_law 1131 = .ok (.iaload, 1) := by decide +kernel
theorem dL_law_1132 : decode cL_law 1132 = .ok (.invokevirtual 119, 3) := by decide +kernel
theorem dL_law_1135 : decode cL_law 1135 = .ok (.aload_n 2, 1) := by decide +kernel
theorem dL_law_1136 : decode cL_law 1136 = .ok (.aload_n 0, 1) := by decide +kernel
theorem dL_law_1137 : decode cL_law 1137 = .ok (.iload_n 3, 1) := by decide +kernel
theorem dL_law_1138 : decode cL_law 1138 = .ok (.iconst 1, 1) := by decide +kernel
theorem dL_law_1139 : decode cL_law 1139 = .ok (.iadd, 1) := by decide +kernel
theorem dL_law_1140 : decode cL_law 1140 = .ok (.iaload, 1) := by decide +kernel
theorem dL_law_1141 : decode cL_law 1141 = .ok (.aload_n 0, 1) := by decide +kernel
theorem dL_law_1142 : decode cL_law 1142 = .ok (.iload_n 3, 1) := by decide +kernel
theorem dL_law_1143 : decode cL_law 1143 = .ok (.iconst 2, 1) := by decide +kernel
theorem dL_law_1144 : decode cL_law 1144 = .ok (.iadd, 1) := by decide +kernel
theorem dL_law_1145 : decode cL_law 1145 = .ok (.iaload, 1) := by decide +kernel
theorem dL_law_1146 : decode cL_law 1146 = .ok (.invokevirtual 122, 3) := by decide +kernel
theorem dL_law_1149 : decode cL_law 1149 = .ok (.if_icmp .eq 196, 3) := by decide +kernel
theorem dL_law_1152 : decode cL_law 1152 = .ok (.iconst 0, 1) := by decide +kernel
theorem dL_law_1153 : decode cL_law 1153 = .ok (.ireturn, 1) := by decide +kernel
theorem dL_law_1154 : decode cL_law 1154 = .ok (.aload_n 1, 1) := by decide +kernel
theorem dL_law_1155 : decode cL_law 1155 = .ok (.aload_n 0, 1) := by decide +kernel
theorem dL_law_1156 : decode cL_law 1156 = .ok (.iload_n 3, 1) := by decide +kernel
theorem dL_law_1157 : decode cL_law 1157 = .ok (.iconst 1, 1) := by decide +kernel
theorem dL_law_1158 : decode cL_law 1158 = .ok (.iadd, 1) := by decide +kernel
theorem dL_law_1159 : decode cL_law 1159 = .ok (.iaload, 1) := by decide +kernel
theorem dL_law_1160 : decode cL_law 1160 = .ok (.invokevirtual 123, 3) := by decide +kernel
theorem dL_law_1163 : decode cL_law 1163 = .ok (.aload_n 2, 1) := by decide +kernel
theorem dL_law_1164 : decode cL_law 1164 = .ok (.aload_n 0, 1) := by decide +kernel
theorem dL_law_1165 : decode cL_law 1165 = .ok (.iload_n 3, 1) := by decide +kernel
theorem dL_law_1166 : decode cL_law 1166 = .ok (.iconst 1, 1) := by decide +kernel
theorem dL_law_1167 : decode cL_law 1167 = .ok (.iadd, 1) := by decide +kernel
theorem dL_law_1168 : decode cL_law 1168 = .ok (.iaload, 1) := by decide +kernel
theorem dL_law_1169 : decode cL_law 1169 = .ok (.invokevirtual 126, 3) := by decide +kernel
theorem dL_law_1172 : decode cL_law 1172 = .ok (.if_icmp .eq 173, 3) := by decide +kernel
theorem dL_law_1175 : decode cL_law 1175 = .ok (.iconst 0, 1) := by decide +kernel
theorem dL_law_1176 : decode cL_law 1176 = .ok (.ireturn, 1) := by decide +kernel
theorem dL_law_1177 : decode cL_law 1177 = .ok (.aload_n 1, 1) := by decide +kernel
theorem dL_law_1178 : decode cL_law 1178 = .ok (.aload_n 0, 1) := by decide +kernel
theorem dL_law_1179 : decode cL_law 1179 = .ok (.iload_n 3, 1) := by decide +kernel
theorem dL_law_1180 : decode cL_law 1180 = .ok (.iconst 1, 1) := by decide +kernel
theorem dL_law_1181 : decode cL_law 1181 = .ok (.iadd, 1) := by decide +kernel
theorem dL_law_1182 : decode cL_law 1182 = .ok (.iaload, 1) := by decide +kernel
theorem dL_law_1183 : decode cL_law 1183 = .ok (.invokevirtual 127, 3) := by decide +kernel
theorem dL_law_1186 : decode cL_law 1186 = .ok (.aload_n 2, 1) := by decide +kernel
theorem dL_law_1187 : decode cL_law 1187 = .ok (.aload_n 0, 1) := by decide +kernel
theorem dL_law_1188 : decode cL_law 1188 = .ok (.iload_n 3, 1) := by decide +kernel
theorem dL_law_1189 : decode cL_law 1189 = .ok (.iconst 1, 1) := by decide +kernel
theorem dL_law_1190 : decode cL_law 1190 = .ok (.iadd, 1) := by decide +kernel
theorem dL_law_1191 : decode cL_law 1191 = .ok (.iaload, 1) := by decide +kernel
theorem dL_law_1192 : decode cL_law 1192 = .ok (.invokevirtual 130, 3) := by decide +kernel
theorem dL_law_1195 : decode cL_law 1195 = .ok (.if_icmp .eq 150, 3) := by decide +kernel
theorem dL_law_1198 : decode cL_law 1198 = .ok (.iconst 0, 1) := by decide +kernel
theorem dL_law_1199 : decode cL_law 1199 = .ok (.ireturn, 1) := by decide +kernel
theorem dL_law_1200 : decode cL_law 1200 = .ok (.aload_n 1, 1) := by decide +kernel
theorem dL_law_1201 : decode cL_law 1201 = .ok (.invokevirtual 131, 3) := by decide +kernel
theorem dL_law_1204 : decode cL_law 1204 = .ok (.aload_n 2, 1) := by decide +kernel
theorem dL_law_1205 : decode cL_law 1205 = .ok (.invokevirtual 134, 3) := by decide +kernel
theorem dL_law_1208 : decode cL_law 1208 = .ok (.if_icmp .eq 137, 3) := by decide +kernel
theorem dL_law_1211 : decode cL_law 1211 = .ok (.iconst 0, 1) := by decide +kernel
theorem dL_law_1212 : decode cL_law 1212 = .ok (.ireturn, 1) := by decide +kernel
theorem dL_law_1213 : decode cL_law 1213 = .ok (.aload_n 1, 1) := by decide +kernel
theorem dL_law_1214 : decode cL_law 1214 = .ok (.invokevirtual 135, 3) := by decide +kernel
theorem dL_law_1217 : decode cL_law 1217 = .ok (.aload_n 2, 1) := by decide +kernel
theorem dL_law_1218 : decode cL_law 1218 = .ok (.invokevirtual 138, 3) := by decide +kernel
theorem dL_law_1221 : decode cL_law 1221 = .ok (.if_icmp .eq 124, 3) := by decide +kernel
theorem dL_law_1224 : decode cL_law 1224 = .ok (.iconst 0, 1) := by decide +kernel
theorem dL_law_1225 : decode cL_law 1225 = .ok (.ireturn, 1) := by decide +kernel
theorem dL_law_1226 : decode cL_law 1226 = .ok (.aload_n 1, 1) := by decide +kernel
theorem dL_law_1227 : decode cL_law 1227 = .ok (.invokevirtual 139, 3) := by decide +kernel
theorem dL_law_1230 : decode cL_law 1230 = .ok (.aload_n 2, 1) := by decide +kernel
theorem dL_law_1231 : decode cL_law 1231 = .ok (.invokevirtual 142, 3) := by decide +kernel
theorem dL_law_1234 : decode cL_law 1234 = .ok (.if_icmp .eq 111, 3) := by decide +kernel
theorem dL_law_1237 : decode cL_law 1237 = .ok (.iconst 0, 1) := by decide +kernel
theorem dL_law_1238 : decode cL_law 1238 = .ok (.ireturn, 1) := by decide +kernel
theorem dL_law_1239 : decode cL_law 1239 = .ok (.aload_n 1, 1) := by decide +kernel
theorem dL_law_1240 : decode cL_law 1240 = .ok (.aload_n 0, 1) := by decide +kernel
theorem dL_law_1241 : decode cL_law 1241 = .ok (.iload_n 3, 1) := by decide +kernel
theorem dL_law_1242 : decode cL_law 1242 = .ok (.iconst 1, 1) := by decide +kernel
theorem dL_law_1243 : decode cL_law 1243 = .ok (.iadd, 1) := by decide +kernel
theorem dL_law_1244 : decode cL_law 1244 = .ok (.iaload, 1) := by decide +kernel
theorem dL_law_1245 : decode cL_law 1245 = .ok (.invokevirtual 143, 3) := by decide +kernel
theorem dL_law_1248 : decode cL_law 1248 = .ok (.aload_n 2, 1) := by decide +kernel
theorem dL_law_1249 : decode cL_law 1249 = .ok (.aload_n 0, 1) := by decide +kernel
theorem dL_law_1250 : decode cL_law 1250 = .ok (.iload_n 3, 1) := by decide +kernel
theorem dL_law_1251 : decode cL_law 1251 = .ok (.iconst 1, 1) := by decide +kernel
theorem dL_law_1252 : decode cL_law 1252 = .ok (.iadd, 1) := by decide +kernel
theorem dL_law_1253 : decode cL_law 1253 = .ok (.iaload, 1) := by decide +kernel
theorem dL_law_1254 : decode cL_law 1254 = .ok (.invokevirtual 146, 3) := by decide +kernel
theorem dL_law_1257 : decode cL_law 1257 = .ok (.if_icmp .eq 88, 3) := by decide +kernel
theorem dL_law_1260 : decode cL_law 1260 = .ok (.iconst 0, 1) := by decide +kernel
theorem dL_law_1261 : decode cL_law 1261 = .ok (.ireturn, 1) := by decide +kernel
theorem dL_law_1262 : decode cL_law 1262 = .ok (.aload_n 1, 1) := by decide +kernel
theorem dL_law_1263 : decode cL_law 1263 = .ok (.aload_n 0, 1) := by decide +kernel
theorem dL_law_1264 : decode cL_law 1264 = .ok (.iload_n 3, 1) := by decide +kernel
theorem dL_law_1265 : decode cL_law 1265 = .ok (.iconst 1, 1) := by decide +kernel
theorem dL_law_1266 : decode cL_law 1266 = .ok (.iadd, 1) := by decide +kernel
theorem dL_law_1267 : decode cL_law 1267 = .ok (.iaload, 1) := by decide +kernel
theorem dL_law_1268 : decode cL_law 1268 = .ok (.invokevirtual 147, 3) := by decide +kernel
theorem dL_law_1271 : decode cL_law 1271 = .ok (.aload_n 2, 1) := by decide +kernel
theorem dL_law_1272 : decode cL_law 1272 = .ok (.aload_n 0, 1) := by decide +kernel
theorem dL_law_1273 : decode cL_law 1273 = .ok (.iload_n 3, 1) := by decide +kernel
theorem dL_law_1274 : decode cL_law 1274 = .ok (.iconst 1, 1) := by decide +kernel
theorem dL_law_1275 : decode cL_law 1275 = .ok (.iadd, 1) := by decide +kernel
theorem dL_law_1276 : decode cL_law 1276 = .ok (.iaload, 1) := by decide +kernel
theorem dL_law_1277 : decode cL_law 1277 = .ok (.invokevirtual 150, 3) := by decide +kernel
theorem dL_law_1280 : decode cL_law 1280 = .ok (.if_icmp .eq 65, 3) := by decide +kernel
theorem dL_law_1283 : decode cL_law 1283 = .ok (.iconst 0, 1) := by decide +kernel
theorem dL_law_1284 : decode cL_law 1284 = .ok (.ireturn, 1) := by decide +kernel
theorem dL_law_1285 : decode cL_law 1285 = .ok (.aload_n 1, 1) := by decide +kernel
theorem dL_law_1286 : decode cL_law 1286 = .ok (.aload_n 0, 1) := by decide +kernel
theorem dL_law_1287 : decode cL_law 1287 = .ok (.iload_n 3, 1) := by decide +kernel
theorem dL_law_1288 : decode cL_law 1288 = .ok (.iconst 1, 1) := by decide +kernel
theorem dL_law_1289 : decode cL_law 1289 = .ok (.iadd, 1) := by decide +kernel
theorem dL_law_1290 : decode cL_law 1290 = .ok (.iaload, 1) := by decide +kernel
theorem dL_law_1291 : decode cL_law 1291 = .ok (.invokevirtual 151, 3) := by decide +kernel
theorem dL_law_1294 : decode cL_law 1294 = .ok (.aload_n 2, 1) := by decide +kernel
theorem dL_law_1295 : decode cL_law 1295 = .ok (.aload_n 0, 1) := by decide +kernel
theorem dL_law_1296 : decode cL_law 1296 = .ok (.iload_n 3, 1) := by decide +kernel
theorem dL_law_1297 : decode cL_law 1297 = .ok (.iconst 1, 1) := by decide +kernel
theorem dL_law_1298 : decode cL_law 1298 = .ok (.iadd, 1) := by decide +kernel
theorem dL_law_1299 : decode cL_law 1299 = .ok (.iaload, 1) := by decide +kernel
theorem dL_law_1300 : decode cL_law 1300 = .ok (.invokevirtual 154, 3) := by decide +kernel
theorem dL_law_1303 : decode cL_law 1303 = .ok (.if_icmp .eq 42, 3) := by decide +kernel
theorem dL_law_1306 : decode cL_law 1306 = .ok (.iconst 0, 1) := by decide +kernel
theorem dL_law_1307 : decode cL_law 1307 = .ok (.ireturn, 1) := by decide +kernel
theorem dL_law_1308 : decode cL_law 1308 = .ok (.aload_n 1, 1) := by decide +kernel
theorem dL_law_1309 : decode cL_law 1309 = .ok (.aload_n 0, 1) := by decide +kernel
theorem dL_law_1310 : decode cL_law 1310 = .ok (.iload_n 3, 1) := by decide +kernel
theorem dL_law_1311 : decode cL_law 1311 = .ok (.iconst 1, 1) := by decide +kernel
theorem dL_law_1312 : decode cL_law 1312 = .ok (.iadd, 1) := by decide +kernel
theorem dL_law_1313 : decode cL_law 1313 = .ok (.iaload, 1) := by decide +kernel
theorem dL_law_1314 : decode cL_law 1314 = .ok (.invokevirtual 155, 3) := by decide +kernel
theorem dL_law_1317 : decode cL_law 1317 = .ok (.aload_n 2, 1) := by decide +kernel
theorem dL_law_1318 : decode cL_law 1318 = .ok (.aload_n 0, 1) := by decide +kernel
theorem dL_law_1319 : decode cL_law 1319 = .ok (.iload_n 3, 1) := by decide +kernel
theorem dL_law_1320 : decode cL_law 1320 = .ok (.iconst 1, 1) := by decide +kernel
theorem dL_law_1321 : decode cL_law 1321 = .ok (.iadd, 1) := by decide +kernel
theorem dL_law_1322 : decode cL_law 1322 = .ok (.iaload, 1) := by decide +kernel
theorem dL_law_1323 : decode cL_law 1323 = .ok (.invokevirtual 158, 3) := by decide +kernel
theorem dL_law_1326 : decode cL_law 1326 = .ok (.if_icmp .eq 19, 3) := by decide +kernel
theorem dL_law_1329 : decode cL_law 1329 = .ok (.iconst 0, 1) := by decide +kernel
theorem dL_law_1330 : decode cL_law 1330 = .ok (.ireturn, 1) := by decide +kernel
theorem dL_law_1331 : decode cL_law 1331 = .ok (.aload_n 1, 1) := by decide +kernel
theorem dL_law_1332 : decode cL_law 1332 = .ok (.invokevirtual 159, 3) := by decide +kernel
theorem dL_law_1335 : decode cL_law 1335 = .ok (.aload_n 2, 1) := by decide +kernel
theorem dL_law_1336 : decode cL_law 1336 = .ok (.invokevirtual 163, 3) := by decide +kernel
theorem dL_law_1339 : decode cL_law 1339 = .ok (.lcmp, 1) := by decide +kernel
theorem dL_law_1340 : decode cL_law 1340 = .ok (.ifCond .eq 5, 3) := by decide +kernel
theorem dL_law_1343 : decode cL_law 1343 = .ok (.iconst 0, 1) := by decide +kernel
theorem dL_law_1344 : decode cL_law 1344 = .ok (.ireturn, 1) := by decide +kernel
theorem dL_law_1345 : decode cL_law 1345 = .ok (.iinc 3 7, 3) := by decide +kernel
theorem dL_law_1348 : decode cL_law 1348 = .ok (.goto (-1330), 3) := by decide +kernel
theorem dL_law_1351 : decode cL_law 1351 = .ok (.iconst 1, 1) := by decide +kernel
theorem dL_law_1352 : decode cL_law 1352 = .ok (.ireturn, 1) := by decide +kernel
end
section
/-! ===== the abstract machine: a state of kinds, lengths, sizes and contents; a step is a transformer of predicates ===== -/
abbrev ax_S : Type := (Nat → Nat) × (Nat → Nat) × Nat × Nat
abbrev ax_C : Type := (Nat → Nat → Int32) × (Nat → Nat → Int64) × (Nat → Nat → Option Nat)
abbrev ax_T : Type := Int32 ⊕ Int64 ⊕ Option Nat
abbrev ax_L : Type := List (Option ax_T)
abbrev ax_K : Type := ax_L → List ax_T → ax_S → ax_C → Prop
abbrev ax_P : Type := Option ax_T → ax_S → ax_C → Prop
/-- class ids, slots, array classes, the first address of the world, the address of the static table -/
abbrev ax_D : Type := (Nat → ClassId) × (Nat → Nat → Nat) × (Nat → ClassId) × Nat × Nat
abbrev ax_i (x : Int32) : ax_T := .inl x
abbrev ax_l (x : Int64) : ax_T := .inr (.inl x)
abbrev ax_r (o : Option Nat) : ax_T := .inr (.inr o)
def ax_cv : ax_T → Value
  | .inl x => .int x
  | .inr (.inl x) => .long x
  | .inr (.inr o) => va_rf o
def ax_get : ax_L → Nat → Option ax_T
  | [], _ => none
  | x :: _, 0 => x
  | _ :: t, n + 1 => ax_get t n
def ax_kill : Option ax_T → Option ax_T
  | some (.inr (.inl _)) => none
  | x => x
def ax_st1 : ax_L → Nat → ax_T → ax_L
  | [], _, _ => []
  | _ :: t, 0, v => some v :: t
  | x :: t, 1, v => ax_kill x :: ax_st1 t 0 v
  | x :: t, n + 2, v => x :: ax_st1 t (n + 1) v
def ax_st2 : ax_L → Nat → ax_T → ax_L
  | [], _, _ => []
  | [_], 0, v => [some v]
  | _ :: _ :: t, 0, v => some v :: none :: t
  | x :: t, 1, v => ax_kill x :: ax_st2 t 0 v
  | x :: t, n + 2, v => x :: ax_st2 t (n + 1) v
theorem ax_kill_some {x : Option ax_T} {w : ax_T} (h : ax_kill x = some w) : x = some w ∧ ¬ (ax_cv w).category = 2 := by
  cases x with
  | none => cases h
  | some y =>
    rcases y with y | y | y
    · cases h; exact ⟨rfl, by simp [ax_cv, Value.category]⟩
    · cases h
    · cases h; refine ⟨rfl, ?_⟩; cases y <;> simp [ax_cv, va_rf, Value.category]
theorem ax_st1_get : ∀ (ls : ax_L) (i : Nat) (v : ax_T) (j : Nat) (w : ax_T), ax_get (ax_st1 ls i v) j = some w → (j = i ∧ w = v) ∨ (j ≠ i ∧ ax_get ls j = some w ∧ ¬ (j + 1 = i ∧ (ax_cv w).category = 2))
  | [], _, _, _, _, h => by simp [ax_st1, ax_get] at h
  | x :: t, 0, v, 0, w, h => by
    simp [ax_st1, ax_get] at h
    exact Or.inl ⟨rfl, h.symm⟩
  | x :: t, 0, v, j + 1, w, h => by
    simp [ax_st1, ax_get] at h
    exact Or.inr ⟨by omega, by simpa [ax_get] using h, by omega⟩
  | x :: t, 1, v, 0, w, h => by
    simp [ax_st1, ax_get] at h
    obtain ⟨h1, h2⟩ := ax_kill_some h
    exact Or.inr ⟨by omega, by simpa [ax_get] using h1, fun q => h2 q.2⟩
  | x :: t, 1, v, j + 1, w, h => by
    simp [ax_st1, ax_get] at h
    rcases ax_st1_get t 0 v j w h with ⟨h1, h2⟩ | ⟨h1, h2, h3⟩
    · exact Or.inl ⟨by omega, h2⟩
    · exact Or.inr ⟨by omega, by simpa [ax_get] using h2, by omega⟩
  | x :: t, n + 2, v, 0, w, h => by
    simp [ax_st1, ax_get] at h
    exact Or.inr ⟨by omega, by simpa [ax_get] using h, by omega⟩
  | x :: t, n + 2, v, j + 1, w, h => by
    simp [ax_st1, ax_get] at h
    rcases ax_st1_get t (n + 1) v j w h with ⟨h1, h2⟩ | ⟨h1, h2, h3⟩
    · exact Or.inl ⟨by omega, h2⟩
    · exact Or.inr ⟨by omega, by simpa [ax_get] using h2, fun q => h3 ⟨by omega, q.2⟩⟩
theorem ax_st2_get : ∀ (ls : ax_L) (i : Nat) (v : ax_T) (j : Nat) (w : ax_T), ax_get (ax_st2 ls i v) j = some w → (j = i ∧ w = v) ∨ (j ≠ i ∧ j ≠ i + 1 ∧ ax_get ls j = some w ∧ ¬ (j + 1 = i ∧ (ax_cv w).category = 2))
  | [], _, _, _, _, h => by simp [ax_st2, ax_get] at h
  | [_], 0, v, 0, w, h => by
    simp [ax_st2, ax_get] at h
    exact Or.inl ⟨rfl, h.symm⟩
  | [_], 0, v, j + 1, w, h => by
    simp [ax_st2, ax_get] at h
  | _ :: _ :: t, 0, v, 0, w, h => by
    simp [ax_st2, ax_get] at h
    exact Or.inl ⟨rfl, h.symm⟩
  | _ :: _ :: t, 0, v, 1, w, h => by
    simp [ax_st2, ax_get] at h
  | x :: y :: t, 0, v, j + 2, w, h => by
    simp [ax_st2, ax_get] at h
    exact Or.inr ⟨by omega, by omega, by simpa [ax_get] using h, by omega⟩
  | x :: t, 1, v, 0, w, h => by
    simp [ax_st2, ax_get] at h
    obtain ⟨h1, h2⟩ := ax_kill_some h
    exact Or.inr ⟨by omega, by omega, by simpa [ax_get] using h1, fun q => h2 q.2⟩
  | x :: t, 1, v, j + 1, w, h => by
    simp [ax_st2, ax_get] at h
    rcases ax_st2_get t 0 v j w h with ⟨h1, h2⟩ | ⟨h1, h0, h2, h3⟩
    · exact Or.inl ⟨by omega, h2⟩
    · exact Or.inr ⟨by omega, by omega, by simpa [ax_get] using h2, by omega⟩
  | x :: t, n + 2, v, 0, w, h => by
    simp [ax_st2, ax_get] at h
    exact Or.inr ⟨by omega, by omega, by simpa [ax_get] using h, by omega⟩
  | x :: t, n + 2, v, j + 1, w, h => by
    simp [ax_st2, ax_get] at h
    rcases ax_st2_get t (n + 1) v j w h with ⟨h1, h2⟩ | ⟨h1, h0, h2, h3⟩
    · exact Or.inl ⟨by omega, h2⟩
    · exact Or.inr ⟨by omega, by omega, by simpa [ax_get] using h2, fun q => h3 ⟨by omega, q.2⟩⟩
theorem ax_st1_len : ∀ (ls : ax_L) (i : Nat) (v : ax_T), (ax_st1 ls i v).length = ls.length
  | [], _, _ => rfl
  | _ :: _, 0, _ => rfl
  | _ :: t, 1, v => by simp [ax_st1, ax_st1_len t 0 v]
  | _ :: t, n + 2, v => by simp [ax_st1, ax_st1_len t (n + 1) v]
theorem ax_st2_len : ∀ (ls : ax_L) (i : Nat) (v : ax_T), (ax_st2 ls i v).length = ls.length
  | [], _, _ => rfl
  | [_], 0, _ => rfl
  | _ :: _ :: _, 0, _ => rfl
  | _ :: t, 1, v => by simp [ax_st2, ax_st2_len t 0 v]
  | _ :: t, n + 2, v => by simp [ax_st2, ax_st2_len t (n + 1) v]
theorem ax_get_lt : ∀ (ls : ax_L) (i : Nat) (w : ax_T), ax_get ls i = some w → i < ls.length
  | [], _, _, h => by simp [ax_get] at h
  | _ :: _, 0, _, _ => by simp
  | _ :: t, n + 1, w, h => by
    have := ax_get_lt t n w (by simpa [ax_get] using h)
    simp; omega
/-- the machine's locals hold the listed ones -/
def ax_has (lsA : Array Slot) (nL : Nat) (ls : ax_L) : Prop := lsA.size = nL ∧ lv_wf lsA ∧ ∀ (i : Nat) (v : ax_T), ax_get ls i = some v → lsA[i]? = some (.val (ax_cv v))
theorem ax_has_st1 {lsA : Array Slot} {nL : Nat} {ls : ax_L} {i : Nat} {v : ax_T} (h : ax_has lsA nL ls) (hi : i < nL) (hc : (ax_cv v).category = 1) : ∃ ls', storeLocals lsA i (ax_cv v) = some ls' ∧ ax_has ls' nL (ax_st1 ls i v) := by
  obtain ⟨h1, h2, h3⟩ := h
  obtain ⟨ls', e, g1, g2, g3⟩ := lv_store1 (l := []) (v := ax_cv v) ⟨h1, h2, fun q hq => by cases hq⟩ hi hc
  refine ⟨ls', e, g1, g2, fun j w hw => ?_⟩
  rcases ax_st1_get ls i v j w hw with ⟨rfl, rfl⟩ | ⟨a1, a2, a3⟩
  · exact g3 (j, ax_cv w) (by simp)
  · obtain ⟨ls2, e2, -, -, k3⟩ := lv_store1 (l := [(j, ax_cv w)]) (v := ax_cv v) (ls := lsA) ⟨h1, h2, fun q hq => by simp at hq; subst hq; exact h3 j w a2⟩ hi hc
    cases e.symm.trans e2
    refine k3 (j, ax_cv w) (List.mem_cons_of_mem _ (List.mem_filter.mpr ⟨by simp, ?_⟩))
    simp only [Bool.and_eq_true, Bool.not_eq_true', beq_eq_false_iff_ne, ne_eq, Bool.and_eq_false_iff]
    refine ⟨a1, ?_⟩
    by_cases hj : j + 1 = i
    · exact Or.inr fun q => a3 ⟨hj, q⟩
    · exact Or.inl hj
theorem ax_has_st2 {lsA : Array Slot} {nL : Nat} {ls : ax_L} {i : Nat} {v : ax_T} (h : ax_has lsA nL ls) (hi : i + 1 < nL) (hc : (ax_cv v).category = 2) : ∃ ls', storeLocals lsA i (ax_cv v) = some ls' ∧ ax_has ls' nL (ax_st2 ls i v) := by
  obtain ⟨h1, h2, h3⟩ := h
  obtain ⟨ls', e, g1, g2, g3⟩ := lv_store2 (l := []) (v := ax_cv v) ⟨h1, h2, fun q hq => by cases hq⟩ hi hc
  refine ⟨ls', e, g1, g2, fun j w hw => ?_⟩
  rcases ax_st2_get ls i v j w hw with ⟨rfl, rfl⟩ | ⟨a1, a0, a2, a3⟩
  · exact g3 (j, ax_cv w) (by simp)
  · obtain ⟨ls2, e2, -, -, k3⟩ := lv_store2 (l := [(j, ax_cv w)]) (v := ax_cv v) (ls := lsA) ⟨h1, h2, fun q hq => by simp at hq; subst hq; exact h3 j w a2⟩ hi hc
    cases e.symm.trans e2
    refine k3 (j, ax_cv w) (List.mem_cons_of_mem _ (List.mem_filter.mpr ⟨by simp, ?_⟩))
    simp only [Bool.and_eq_true, Bool.not_eq_true', beq_eq_false_iff_ne, ne_eq, Bool.and_eq_false_iff]
    refine ⟨a1, a0, ?_⟩
    by_cases hj : j + 1 = i
    · exact Or.inr fun q => a3 ⟨hj, q⟩
    · exact Or.inl hj
/-! the world's cells: kinds 1 .. 9 are objects of the classes of vwCl, 11 int[], 12 boolean[], 13 byte[], 14 Path[], 15 Picture[] -/
def ax_ty : Nat → Nat → FieldType
  | 0 => tyX0
  | 1 => tyX1
  | 2 => tyX2
  | 3 => tyX3
  | 4 => tyX4
  | 5 => tyX5
  | 6 => tyX6
  | 7 => tyX7
  | _ => tyX8
def ax_n : Nat → Nat
  | 0 => 3
  | 1 => 5
  | 2 => 2
  | 3 => 3
  | 4 => 2
  | 5 => 2
  | 6 => 7
  | 7 => 7
  | _ => 25
def ax_fk : FieldType → Nat
  | .long => 1
  | .object _ => 2
  | .array _ => 2
  | _ => 0
def ax_v (ci : Nat) (c : ax_C) (a k : Nat) : Value := if ax_fk (ax_ty ci k) = 0 then .int (c.1 a k) else if ax_fk (ax_ty ci k) = 1 then .long (c.2.1 a k) else va_rf (c.2.2 a k)
def ax_fl (ci : Nat) (c : ax_C) (a : Nat) : List Value := (List.range (ax_n ci)).map (ax_v ci c a)
def ax_f (D : ax_D) (S : ax_S) (c : ax_C) (a : Nat) : va_E :=
  if S.1 a < 10 then .inr (S.1 a - 1, ax_fl (S.1 a - 1) c a)
  else if S.1 a < 14 then .inl (D.2.2.1 (S.1 a - 11), S.2.1 a, .inl (c.1 a))
  else .inl (D.2.2.1 (S.1 a - 11), S.2.1 a, .inr (.inr (.inr (.inr (c.2.2 a)))))
def ax_A (D : ax_D) : Nat → Prop := fun q => D.2.2.2.1 ≤ q
def ax_ad (D : ax_D) (S : ax_S) : List Nat := List.range' D.2.2.2.1 (S.2.2.1 - D.2.2.2.1)
def ax_w (D : ax_D) (S : ax_S) (c : ax_C) : va_W := va_pl (ax_ad D S) (ax_f D S c)
def ax_R (D : ax_D) (S : ax_S) (c : ax_C) (H : Heap) : Prop := H.size = S.2.2.1 ∧ D.2.2.2.1 ≤ S.2.2.1 ∧ va_P (D.1, D.2.1) vwCl (ax_w D S c) H ∧ ∀ a, S.1 a ≠ 0 → D.2.2.2.1 ≤ a ∧ a < S.2.2.1
def ax_aty : Nat → FieldType
  | 0 => .int
  | 1 => .boolean
  | 2 => .byte
  | 3 => .object "PathEditor$Path"
  | _ => .object "PathEditor$Picture"
def ax_tys (D : ax_D) : List (ClassId × FieldType) := (List.range 5).map fun k => (D.2.2.1 k, ax_aty k)
def ax_wt (j : Nat) : Int32 := [30, 12, 3, 18, 18, 9, 9, 18, 18, 3, 12, 30].getD j 0
def ax_big : List Cond := lw_tbl.filter goodWord
def ax_isN : Cond → Bool
  | .fieldLinkNest .. => true
  | .methodLinkNest .. => true
  | _ => false
def ax_nw : List Cond := tables_1.filter ax_isN
/-- what is known of a state, whatever the world holds -/
def ax_U (D : ax_D) (U : State) : Prop := va_K (D.1, D.2.1) vwCl (ax_tys D) U ∧ (∀ w ∈ ax_nw, va_Nw w U) ∧ va_AO "PathEditor$Path" U ∧ va_AO "PathEditor$Picture" U ∧ va_Z "PathEditor" "AREA_WEIGHTS" "[I" (.ref D.2.2.2.2) (ax_A D) U U.heap ∧ va_T .int D.2.2.2.2 12 (fun j => .int (ax_wt j)) (ax_A D) U U.heap
theorem ax_Nw_moved {w : Cond} (h : ax_isN w = true) {s U : State} (hW : s.WarmedH U.vm) (hz : va_Nw w s) : va_Nw w U := by
  cases w <;> first | (cases h; done) | exact va_Nw.warmF hW hz | exact va_Nw.warmM hW hz
theorem ax_U_moved {D : ax_D} {s U : State} (hW : s.WarmedH U.vm) (hh : ∀ a : Nat, a < s.heap.size → ¬ ax_A D a → U.heap[a]? = s.heap[a]?) (h : ax_U D s) : ax_U D U := by
  obtain ⟨h1, h2, h3, h4, h5, h6⟩ := h
  exact ⟨va_K.moved hW.alike h1, fun w hw => ax_Nw_moved (List.mem_filter.mp hw).2 hW (h2 w hw), h3.moved hW.alike, h4.moved hW.alike, (h5.moved hW.alike).kept hh, (h6.moved hW.alike).kept hh⟩
theorem ax_ad_get {D : ax_D} {S : ax_S} {k a : Nat} (h : (ax_ad D S)[k]? = some a) : a = D.2.2.2.1 + k := by
  obtain ⟨h1, h2⟩ := List.getElem?_eq_some_iff.mp h
  rw [← h2]
  simp [ax_ad]
theorem ax_apart (D : ax_D) (S : ax_S) (c : ax_C) : va_D (ax_A D) (ax_w D S c) := by
  have key : ∀ (k : Nat) (q : Nat × va_E), (ax_w D S c)[k]? = some q → q.1 = D.2.2.2.1 + k := by
    intro k q h
    simp only [ax_w, va_pl, List.getElem?_map] at h
    cases hb : (ax_ad D S)[k]? with
    | none => rw [hb] at h; cases h
    | some b => rw [hb] at h; cases h; exact ax_ad_get hb
  refine ⟨fun i j p q hp hq h => ?_, fun k q h => ?_⟩
  · have := key i p hp
    have := key j q hq
    omega
  · rw [key k q h]; exact Nat.le_add_right _ _
theorem ax_mem {D : ax_D} {S : ax_S} {a : Nat} (h1 : D.2.2.2.1 ≤ a) (h2 : a < S.2.2.1) : a ∈ ax_ad D S := by
  simp only [ax_ad, List.mem_range'_1]
  omega
theorem ax_at {D : ax_D} {S : ax_S} {c : ax_C} {H : Heap} (h : ax_R D S c H) {a : Nat} (ha : S.1 a ≠ 0) : ∃ k : Nat, (ax_w D S c)[k]? = some (a, ax_f D S c a) := by
  obtain ⟨-, -, -, h4⟩ := h
  obtain ⟨g1, g2⟩ := h4 a ha
  obtain ⟨k, hk⟩ := va_pl_get (X := []) (f := ax_f D S c) (ax_mem (D := D) (S := S) g1 g2)
  exact ⟨k, hk⟩
theorem ax_set {D : ax_D} {S : ax_S} {c : ax_C} {a k : Nat} {e : va_E} (h1 : D.2.2.2.1 ≤ a) (h2 : a < S.2.2.1) (hk : (ax_w D S c)[k]? = some (a, ax_f D S c a)) : (ax_w D S c).set k (a, e) = va_pl (ax_ad D S) (va_up (ax_f D S c) a e) := va_pl_set (X := []) (ax_apart D S c) (ax_mem h1 h2) hk
end
section
/-! ===== steps as transformers of predicates; each is sound ===== -/
def ax_pi (st : List ax_T) (F : Int32 → List ax_T → Prop) : Prop := match st with
  | .inl x :: t => F x t
  | _ => False
def ax_pl (st : List ax_T) (F : Int64 → List ax_T → Prop) : Prop := match st with
  | .inr (.inl x) :: t => F x t
  | _ => False
def ax_pr (st : List ax_T) (F : Option Nat → List ax_T → Prop) : Prop := match st with
  | .inr (.inr x) :: t => F x t
  | _ => False
def ax_p0 (st : List ax_T) (F : Prop) : Prop := match st with
  | [] => F
  | _ => False
def ax_sm (o : Option Nat) (F : Nat → Prop) : Prop := match o with
  | some a => F a
  | none => False
def ax_li (x : Option ax_T) (F : Int32 → Prop) : Prop := match x with
  | some (.inl x) => F x
  | _ => False
def ax_ll (x : Option ax_T) (F : Int64 → Prop) : Prop := match x with
  | some (.inr (.inl x)) => F x
  | _ => False
def ax_lr (x : Option ax_T) (F : Option Nat → Prop) : Prop := match x with
  | some (.inr (.inr x)) => F x
  | _ => False
theorem ax_pi_e {st : List ax_T} {F : Int32 → List ax_T → Prop} (h : ax_pi st F) : ∃ x t, st = .inl x :: t ∧ F x t := by
  unfold ax_pi at h; split at h
  · exact ⟨_, _, rfl, h⟩
  · exact h.elim
theorem ax_pl_e {st : List ax_T} {F : Int64 → List ax_T → Prop} (h : ax_pl st F) : ∃ x t, st = .inr (.inl x) :: t ∧ F x t := by
  unfold ax_pl at h; split at h
  · exact ⟨_, _, rfl, h⟩
  · exact h.elim
theorem ax_pr_e {st : List ax_T} {F : Option Nat → List ax_T → Prop} (h : ax_pr st F) : ∃ x t, st = .inr (.inr x) :: t ∧ F x t := by
  unfold ax_pr at h; split at h
  · exact ⟨_, _, rfl, h⟩
  · exact h.elim
theorem ax_p0_e {st : List ax_T} {F : Prop} (h : ax_p0 st F) : st = [] ∧ F := by
  unfold ax_p0 at h; split at h
  · exact ⟨rfl, h⟩
  · exact h.elim
theorem ax_sm_e {o : Option Nat} {F : Nat → Prop} (h : ax_sm o F) : ∃ a, o = some a ∧ F a := by
  unfold ax_sm at h; split at h
  · exact ⟨_, rfl, h⟩
  · exact h.elim
theorem ax_li_e {o : Option ax_T} {F : Int32 → Prop} (h : ax_li o F) : ∃ x, o = some (.inl x) ∧ F x := by
  unfold ax_li at h; split at h
  · exact ⟨_, rfl, h⟩
  · exact h.elim
theorem ax_ll_e {o : Option ax_T} {F : Int64 → Prop} (h : ax_ll o F) : ∃ x, o = some (.inr (.inl x)) ∧ F x := by
  unfold ax_ll at h; split at h
  · exact ⟨_, rfl, h⟩
  · exact h.elim
theorem ax_lr_e {o : Option ax_T} {F : Option Nat → Prop} (h : ax_lr o F) : ∃ x, o = some (.inr (.inr x)) ∧ F x := by
  unfold ax_lr at h; split at h
  · exact ⟨_, rfl, h⟩
  · exact h.elim
theorem ax_sm_s {a : Nat} {F : Nat → Prop} : ax_sm (some a) F = F a := rfl
/-- what the machine has in common with the abstract state -/
def ax_H (D : ax_D) (s : State) (R : Room) (nL sl0 : Nat) (ls : ax_L) (S : ax_S) (C : ax_C) (H : Heap) (lsA : Array Slot) (locs : List Loc) (cells slots : Nat) : Prop :=
  ax_R D S C H ∧ ax_has lsA nL ls ∧ va_S (ax_A D) s.heap H locs ∧ cells + s.heap.size = S.2.2.1 ∧ slots + sl0 = S.2.2.2 ∧ cells ≤ R.cells ∧ slots ≤ R.slots
/-- the machine's fixed part -/
def ax_X (D : ax_D) (p : Program) (s : State) (m : MethodId) (args : Array Value) (meth : Method) (c : Code) (own : String) (cc : ByteArray) (nL : Nat) : Prop :=
  p.tables.exec = Jvm.exec ∧ c.code = cc ∧ c.maxLocals = nL ∧ s.vm.findClass own = some m.cls ∧ (∀ w ∈ ax_big, w.before args s = true) ∧ meth.locks = false ∧ ax_U D s ∧ D.2.2.2.1 ≤ s.heap.size
/-- from here the machine comes to an end that Q tells -/
def ax_Z (p : Program) (l : Launch) (e : Env) (R : Room) (s : State) (m : MethodId) (args : Array Value) (below : List Frame) (meth : Method) (c : Code) (D : ax_D) (nL sl0 : Nat) (Q : State → Prop) (pc : Nat) : ax_K := fun ls st S C =>
  ∀ (H : Heap) (lsA : Array Slot) (locs : List Loc) (cells slots : Nat), ax_H D s R nL sl0 ls S C H lsA locs cells slots → W p l e R s m args below meth c H locs cells slots Q (F0 m pc lsA (st.map ax_cv))
section AXR
variable {p : Program} {l : Launch} {e : Env} {R : Room} {s : State} {m : MethodId} {args : Array Value} {below : List Frame} {meth : Method} {c : Code} {D : ax_D} {nL sl0 : Nat} {Q : State → Prop} {own : String} {cc : ByteArray} {pc : Nat} {S : ax_S} {K K1 K2 : ax_K}
def ax_ic (v : Int32) (K : ax_K) : ax_K := fun ls st S C => K ls (ax_i v :: st) S C
theorem sx_iconst (X : ax_X D p s m args meth c own cc nL) {v : Int32} {n : Int} (hd : decode cc pc = .ok (.iconst n, 1)) (hv : Int32.ofInt n = v) (k : (∀ ls st C, K ls st S C → ax_Z p l e R s m args below meth c D nL sl0 Q (pc + 1) ls st S C)) : (∀ ls st C, ax_ic v K ls st S C → ax_Z p l e R s m args below meth c D nL sl0 Q (pc) ls st S C) := fun ls st C hK H lsA locs cells slots h => lv_iconst X.1 X.2.1 hd hv (k _ _ _ hK _ _ _ _ _ h)
theorem sx_bipush (X : ax_X D p s m args meth c own cc nL) {v : Int32} {n : Int} (hd : decode cc pc = .ok (.bipush n, 2)) (hv : (Int8.ofInt n).toInt32 = v) (k : (∀ ls st C, K ls st S C → ax_Z p l e R s m args below meth c D nL sl0 Q (pc + 2) ls st S C)) : (∀ ls st C, ax_ic v K ls st S C → ax_Z p l e R s m args below meth c D nL sl0 Q (pc) ls st S C) := fun ls st C hK H lsA locs cells slots h => lv_bipush X.1 X.2.1 hd hv (k _ _ _ hK _ _ _ _ _ h)
theorem sx_sipush (X : ax_X D p s m args meth c own cc nL) {v : Int32} {n : Int} (hd : decode cc pc = .ok (.sipush n, 3)) (hv : (Int16.ofInt n).toInt32 = v) (k : (∀ ls st C, K ls st S C → ax_Z p l e R s m args below meth c D nL sl0 Q (pc + 3) ls st S C)) : (∀ ls st C, ax_ic v K ls st S C → ax_Z p l e R s m args below meth c D nL sl0 Q (pc) ls st S C) := fun ls st C hK H lsA locs cells slots h => lv_sipush X.1 X.2.1 hd hv (k _ _ _ hK _ _ _ _ _ h)
theorem sx_ldc (X : ax_X D p s m args meth c own cc nL) {v : Int32} {n : Nat} (hd : decode cc pc = .ok (.ldc n, 2)) (hv : Jvm.Cond.constant own n v ∈ ax_big) (k : (∀ ls st C, K ls st S C → ax_Z p l e R s m args below meth c D nL sl0 Q (pc + 2) ls st S C)) : (∀ ls st C, ax_ic v K ls st S C → ax_Z p l e R s m args below meth c D nL sl0 Q (pc) ls st S C) := fun ls st C hK H lsA locs cells slots h => lv_ldc X.1 X.2.1 X.2.2.2.1 (X.2.2.2.2.1 _ hv) hd (k _ _ _ hK _ _ _ _ _ h)
def ax_lc (v : Int64) (K : ax_K) : ax_K := fun ls st S C => K ls (ax_l v :: st) S C
theorem sx_ldc2 (X : ax_X D p s m args meth c own cc nL) {v : Int64} {n : Nat} (hd : decode cc pc = .ok (.ldc2_w n, 3)) (hv : Jvm.Cond.constantLong own n v ∈ ax_big) (k : (∀ ls st C, K ls st S C → ax_Z p l e R s m args below meth c D nL sl0 Q (pc + 3) ls st S C)) : (∀ ls st C, ax_lc v K ls st S C → ax_Z p l e R s m args below meth c D nL sl0 Q (pc) ls st S C) := fun ls st C hK H lsA locs cells slots h => lv_ldc2 X.1 X.2.1 X.2.2.2.1 (X.2.2.2.2.1 _ hv) hd (k _ _ _ hK _ _ _ _ _ h)
theorem sx_lconst (X : ax_X D p s m args meth c own cc nL) {v : Int64} {n : Fin 2} (hd : decode cc pc = .ok (.lconst n, 1)) (hv : Int64.ofNat (n : Nat) = v) (k : (∀ ls st C, K ls st S C → ax_Z p l e R s m args below meth c D nL sl0 Q (pc + 1) ls st S C)) : (∀ ls st C, ax_lc v K ls st S C → ax_Z p l e R s m args below meth c D nL sl0 Q (pc) ls st S C) := fun ls st C hK H lsA locs cells slots h => lv_lconst X.1 X.2.1 hd hv (k _ _ _ hK _ _ _ _ _ h)
def ax_null (K : ax_K) : ax_K := fun ls st S C => K ls (ax_r none :: st) S C
theorem sx_null (X : ax_X D p s m args meth c own cc nL) (hd : decode cc pc = .ok (.aconst_null, 1)) (k : (∀ ls st C, K ls st S C → ax_Z p l e R s m args below meth c D nL sl0 Q (pc + 1) ls st S C)) : (∀ ls st C, ax_null K ls st S C → ax_Z p l e R s m args below meth c D nL sl0 Q (pc) ls st S C) := fun ls st C hK H lsA locs cells slots h => lv_null X.1 X.2.1 hd (k _ _ _ hK _ _ _ _ _ h)
def ax_ild (n : Nat) (K : ax_K) : ax_K := fun ls st S C => ax_li (ax_get ls n) fun x => K ls (ax_i x :: st) S C
def ax_lld (n : Nat) (K : ax_K) : ax_K := fun ls st S C => ax_ll (ax_get ls n) fun x => K ls (ax_l x :: st) S C
def ax_ald (n : Nat) (K : ax_K) : ax_K := fun ls st S C => ax_lr (ax_get ls n) fun x => K ls (ax_r x :: st) S C
theorem sx_iload (X : ax_X D p s m args meth c own cc nL) {n : Nat} (hd : decode cc pc = .ok (.iload n, 2)) (k : (∀ ls st C, K ls st S C → ax_Z p l e R s m args below meth c D nL sl0 Q (pc + 2) ls st S C)) : (∀ ls st C, ax_ild n K ls st S C → ax_Z p l e R s m args below meth c D nL sl0 Q (pc) ls st S C) := fun ls st C hK H lsA locs cells slots h => by
  obtain ⟨x, e1, hK⟩ := ax_li_e hK
  exact lv_iload X.1 X.2.1 hd (h.2.1.2.2 _ _ e1) (k _ _ _ hK _ _ _ _ _ h)
theorem sx_iload_n (X : ax_X D p s m args meth c own cc nL) {n : Nat} {q : Fin 4} (hd : decode cc pc = .ok (.iload_n q, 1)) (hq : (q : Nat) = n) (k : (∀ ls st C, K ls st S C → ax_Z p l e R s m args below meth c D nL sl0 Q (pc + 1) ls st S C)) : (∀ ls st C, ax_ild n K ls st S C → ax_Z p l e R s m args below meth c D nL sl0 Q (pc) ls st S C) := fun ls st C hK H lsA locs cells slots h => by
  obtain ⟨x, e1, hK⟩ := ax_li_e hK
  exact lv_iload_n X.1 X.2.1 hd hq (h.2.1.2.2 _ _ e1) (k _ _ _ hK _ _ _ _ _ h)
theorem sx_lload (X : ax_X D p s m args meth c own cc nL) {n : Nat} (hd : decode cc pc = .ok (.lload n, 2)) (k : (∀ ls st C, K ls st S C → ax_Z p l e R s m args below meth c D nL sl0 Q (pc + 2) ls st S C)) : (∀ ls st C, ax_lld n K ls st S C → ax_Z p l e R s m args below meth c D nL sl0 Q (pc) ls st S C) := fun ls st C hK H lsA locs cells slots h => by
  obtain ⟨x, e1, hK⟩ := ax_ll_e hK
  exact lv_lload X.1 X.2.1 hd (h.2.1.2.2 _ _ e1) (k _ _ _ hK _ _ _ _ _ h)
theorem sx_lload_n (X : ax_X D p s m args meth c own cc nL) {n : Nat} {q : Fin 4} (hd : decode cc pc = .ok (.lload_n q, 1)) (hq : (q : Nat) = n) (k : (∀ ls st C, K ls st S C → ax_Z p l e R s m args below meth c D nL sl0 Q (pc + 1) ls st S C)) : (∀ ls st C, ax_lld n K ls st S C → ax_Z p l e R s m args below meth c D nL sl0 Q (pc) ls st S C) := fun ls st C hK H lsA locs cells slots h => by
  obtain ⟨x, e1, hK⟩ := ax_ll_e hK
  exact lv_lload_n X.1 X.2.1 hd hq (h.2.1.2.2 _ _ e1) (k _ _ _ hK _ _ _ _ _ h)
theorem sx_aload (X : ax_X D p s m args meth c own cc nL) {n : Nat} (hd : decode cc pc = .ok (.aload n, 2)) (k : (∀ ls st C, K ls st S C → ax_Z p l e R s m args below meth c D nL sl0 Q (pc + 2) ls st S C)) : (∀ ls st C, ax_ald n K ls st S C → ax_Z p l e R s m args below meth c D nL sl0 Q (pc) ls st S C) := fun ls st C hK H lsA locs cells slots h => by
  obtain ⟨x, e1, hK⟩ := ax_lr_e hK
  have e2 := h.2.1.2.2 _ _ e1
  have k2 := k _ _ _ hK _ _ _ _ _ h
  cases x with
  | none => exact lv_aloadN X.1 X.2.1 hd e2 k2
  | some x => exact lv_aload X.1 X.2.1 hd e2 k2
theorem sx_aload_n (X : ax_X D p s m args meth c own cc nL) {n : Nat} {q : Fin 4} (hd : decode cc pc = .ok (.aload_n q, 1)) (hq : (q : Nat) = n) (k : (∀ ls st C, K ls st S C → ax_Z p l e R s m args below meth c D nL sl0 Q (pc + 1) ls st S C)) : (∀ ls st C, ax_ald n K ls st S C → ax_Z p l e R s m args below meth c D nL sl0 Q (pc) ls st S C) := fun ls st C hK H lsA locs cells slots h => by
  obtain ⟨x, e1, hK⟩ := ax_lr_e hK
  have e2 := h.2.1.2.2 _ _ e1
  have k2 := k _ _ _ hK _ _ _ _ _ h
  cases x with
  | none => exact lv_aload_nN X.1 X.2.1 hd hq e2 k2
  | some x => exact lv_aload_n X.1 X.2.1 hd hq e2 k2
theorem ax_H.loc {ls ls2 : ax_L} {S : ax_S} {C : ax_C} {H : Heap} {lsA lsA2 : Array Slot} {locs : List Loc} {cells slots : Nat} (h : ax_H D s R nL sl0 ls S C H lsA locs cells slots) (h2 : ax_has lsA2 nL ls2) : ax_H D s R nL sl0 ls2 S C H lsA2 locs cells slots := ⟨h.1, h2, h.2.2⟩
theorem ax_W1 {g g2 : JFrame} {H : Heap} {locs : List Loc} {cells slots : Nat} (hst : ∀ T, At T m c below → ∀ tg, Steps p.tables e below (T.setTop g2) tg → Steps p.tables e below (T.setTop g) tg) (k : W p l e R s m args below meth c H locs cells slots Q g2) : W p l e R s m args below meth c H locs cells slots Q g := W.go hst k
def ax_ist (n : Nat) (K : ax_K) : ax_K := fun ls st S C => ax_pi st fun x t => K (ax_st1 ls n (ax_i x)) t S C
theorem sx_istore_n (X : ax_X D p s m args meth c own cc nL) {n : Nat} {q : Fin 4} (hd : decode cc pc = .ok (.istore_n q, 1)) (hq : (q : Nat) = n) (hn : n < nL) (k : (∀ ls st C, K ls st S C → ax_Z p l e R s m args below meth c D nL sl0 Q (pc + 1) ls st S C)) : (∀ ls st C, ax_ist n K ls st S C → ax_Z p l e R s m args below meth c D nL sl0 Q (pc) ls st S C) := fun ls st C hK H lsA locs cells slots h => by
  subst hq
  obtain ⟨x, st, rfl, hK1⟩ := ax_pi_e hK
  obtain ⟨ls', e', h'⟩ := ax_has_st1 (v := ax_i x) h.2.1 hn rfl
  have e' : storeLocals lsA (q : Nat) (.int x) = some ls' := e'
  have k2 := k _ _ _ hK1 _ _ _ _ _ (h.loc h')
  intro T hT X0
  obtain ⟨t, a, b⟩ := k2 T hT X0
  refine ⟨t, ?_, b⟩
  have hexec := X.1
  have hb := X.2.1
  show Steps p.tables e below (T.setTop (F0 m pc lsA (.int x :: st.map ax_cv))) t
  jvm_step X0.here [X0.here.top, ↓top_set X0.here.top, hexec, hb, hd, e']
  exact a
theorem sx_istore (X : ax_X D p s m args meth c own cc nL) {n : Nat} (hd : decode cc pc = .ok (.istore n, 2)) (hn : n < nL) (k : (∀ ls st C, K ls st S C → ax_Z p l e R s m args below meth c D nL sl0 Q (pc + 2) ls st S C)) : (∀ ls st C, ax_ist n K ls st S C → ax_Z p l e R s m args below meth c D nL sl0 Q (pc) ls st S C) := fun ls st C hK H lsA locs cells slots h => by
  obtain ⟨x, st, rfl, hK1⟩ := ax_pi_e hK
  obtain ⟨ls', e', h'⟩ := ax_has_st1 (v := ax_i x) h.2.1 hn rfl
  have e' : storeLocals lsA n (.int x) = some ls' := e'
  have k2 := k _ _ _ hK1 _ _ _ _ _ (h.loc h')
  intro T hT X0
  obtain ⟨t, a, b⟩ := k2 T hT X0
  refine ⟨t, ?_, b⟩
  have hexec := X.1
  have hb := X.2.1
  show Steps p.tables e below (T.setTop (F0 m pc lsA (.int x :: st.map ax_cv))) t
  jvm_step X0.here [X0.here.top, ↓top_set X0.here.top, hexec, hb, hd, e']
  exact a
def ax_lst (n : Nat) (K : ax_K) : ax_K := fun ls st S C => ax_pl st fun x t => K (ax_st2 ls n (ax_l x)) t S C
theorem sx_lstore_n (X : ax_X D p s m args meth c own cc nL) {n : Nat} {q : Fin 4} (hd : decode cc pc = .ok (.lstore_n q, 1)) (hq : (q : Nat) = n) (hn : n + 1 < nL) (k : (∀ ls st C, K ls st S C → ax_Z p l e R s m args below meth c D nL sl0 Q (pc + 1) ls st S C)) : (∀ ls st C, ax_lst n K ls st S C → ax_Z p l e R s m args below meth c D nL sl0 Q (pc) ls st S C) := fun ls st C hK H lsA locs cells slots h => by
  subst hq
  obtain ⟨x, st, rfl, hK1⟩ := ax_pl_e hK
  obtain ⟨ls', e', h'⟩ := ax_has_st2 (v := ax_l x) h.2.1 hn rfl
  have e' : storeLocals lsA (q : Nat) (.long x) = some ls' := e'
  have k2 := k _ _ _ hK1 _ _ _ _ _ (h.loc h')
  intro T hT X0
  obtain ⟨t, a, b⟩ := k2 T hT X0
  refine ⟨t, ?_, b⟩
  have hexec := X.1
  have hb := X.2.1
  show Steps p.tables e below (T.setTop (F0 m pc lsA (.long x :: st.map ax_cv))) t
  jvm_step X0.here [X0.here.top, ↓top_set X0.here.top, hexec, hb, hd, e']
  exact a
theorem sx_lstore (X : ax_X D p s m args meth c own cc nL) {n : Nat} (hd : decode cc pc = .ok (.lstore n, 2)) (hn : n + 1 < nL) (k : (∀ ls st C, K ls st S C → ax_Z p l e R s m args below meth c D nL sl0 Q (pc + 2) ls st S C)) : (∀ ls st C, ax_lst n K ls st S C → ax_Z p l e R s m args below meth c D nL sl0 Q (pc) ls st S C) := fun ls st C hK H lsA locs cells slots h => by
  obtain ⟨x, st, rfl, hK1⟩ := ax_pl_e hK
  obtain ⟨ls', e', h'⟩ := ax_has_st2 (v := ax_l x) h.2.1 hn rfl
  have e' : storeLocals lsA n (.long x) = some ls' := e'
  have k2 := k _ _ _ hK1 _ _ _ _ _ (h.loc h')
  intro T hT X0
  obtain ⟨t, a, b⟩ := k2 T hT X0
  refine ⟨t, ?_, b⟩
  have hexec := X.1
  have hb := X.2.1
  show Steps p.tables e below (T.setTop (F0 m pc lsA (.long x :: st.map ax_cv))) t
  jvm_step X0.here [X0.here.top, ↓top_set X0.here.top, hexec, hb, hd, e']
  exact a
def ax_ast (n : Nat) (K : ax_K) : ax_K := fun ls st S C => ax_pr st fun x t => K (ax_st1 ls n (ax_r x)) t S C
theorem sx_astore_n (X : ax_X D p s m args meth c own cc nL) {n : Nat} {q : Fin 4} (hd : decode cc pc = .ok (.astore_n q, 1)) (hq : (q : Nat) = n) (hn : n < nL) (k : (∀ ls st C, K ls st S C → ax_Z p l e R s m args below meth c D nL sl0 Q (pc + 1) ls st S C)) : (∀ ls st C, ax_ast n K ls st S C → ax_Z p l e R s m args below meth c D nL sl0 Q (pc) ls st S C) := fun ls st C hK H lsA locs cells slots h => by
  subst hq
  obtain ⟨x, st, rfl, hK1⟩ := ax_pr_e hK
  cases x with
  | none =>
    obtain ⟨ls', e', h'⟩ := ax_has_st1 (v := ax_r none) h.2.1 hn rfl
    have e' : storeLocals lsA (q : Nat) (.null) = some ls' := e'
    have k2 := k _ _ _ hK1 _ _ _ _ _ (h.loc h')
    intro T hT X0
    obtain ⟨t, a, b⟩ := k2 T hT X0
    refine ⟨t, ?_, b⟩
    have hexec := X.1
    have hb := X.2.1
    show Steps p.tables e below (T.setTop (F0 m pc lsA (.null :: st.map ax_cv))) t
    jvm_step X0.here [X0.here.top, ↓top_set X0.here.top, hexec, hb, hd, e', Value.isRef]
    exact a
  | some x =>
    obtain ⟨ls', e', h'⟩ := ax_has_st1 (v := ax_r (some x)) h.2.1 hn rfl
    have e' : storeLocals lsA (q : Nat) (.ref x) = some ls' := e'
    have k2 := k _ _ _ hK1 _ _ _ _ _ (h.loc h')
    intro T hT X0
    obtain ⟨t, a, b⟩ := k2 T hT X0
    refine ⟨t, ?_, b⟩
    have hexec := X.1
    have hb := X.2.1
    show Steps p.tables e below (T.setTop (F0 m pc lsA (.ref x :: st.map ax_cv))) t
    jvm_step X0.here [X0.here.top, ↓top_set X0.here.top, hexec, hb, hd, e', Value.isRef]
    exact a
theorem sx_astore (X : ax_X D p s m args meth c own cc nL) {n : Nat} (hd : decode cc pc = .ok (.astore n, 2)) (hn : n < nL) (k : (∀ ls st C, K ls st S C → ax_Z p l e R s m args below meth c D nL sl0 Q (pc + 2) ls st S C)) : (∀ ls st C, ax_ast n K ls st S C → ax_Z p l e R s m args below meth c D nL sl0 Q (pc) ls st S C) := fun ls st C hK H lsA locs cells slots h => by
  obtain ⟨x, st, rfl, hK1⟩ := ax_pr_e hK
  cases x with
  | none =>
    obtain ⟨ls', e', h'⟩ := ax_has_st1 (v := ax_r none) h.2.1 hn rfl
    have e' : storeLocals lsA n (.null) = some ls' := e'
    have k2 := k _ _ _ hK1 _ _ _ _ _ (h.loc h')
    intro T hT X0
    obtain ⟨t, a, b⟩ := k2 T hT X0
    refine ⟨t, ?_, b⟩
    have hexec := X.1
    have hb := X.2.1
    show Steps p.tables e below (T.setTop (F0 m pc lsA (.null :: st.map ax_cv))) t
    jvm_step X0.here [X0.here.top, ↓top_set X0.here.top, hexec, hb, hd, e', Value.isRef]
    exact a
  | some x =>
    obtain ⟨ls', e', h'⟩ := ax_has_st1 (v := ax_r (some x)) h.2.1 hn rfl
    have e' : storeLocals lsA n (.ref x) = some ls' := e'
    have k2 := k _ _ _ hK1 _ _ _ _ _ (h.loc h')
    intro T hT X0
    obtain ⟨t, a, b⟩ := k2 T hT X0
    refine ⟨t, ?_, b⟩
    have hexec := X.1
    have hb := X.2.1
    show Steps p.tables e below (T.setTop (F0 m pc lsA (.ref x :: st.map ax_cv))) t
    jvm_step X0.here [X0.here.top, ↓top_set X0.here.top, hexec, hb, hd, e', Value.isRef]
    exact a
def ax_iinc (n : Nat) (v : Int32) (K : ax_K) : ax_K := fun ls st S C => ax_li (ax_get ls n) fun x => K (ax_st1 ls n (ax_i (x + v))) st S C
theorem sx_iinc (X : ax_X D p s m args meth c own cc nL) {n : Nat} {v : Int32} {z : Int} (hd : decode cc pc = .ok (.iinc n z, 3)) (hv : Int32.ofInt z = v) (hn : n < nL) (k : (∀ ls st C, K ls st S C → ax_Z p l e R s m args below meth c D nL sl0 Q (pc + 3) ls st S C)) : (∀ ls st C, ax_iinc n v K ls st S C → ax_Z p l e R s m args below meth c D nL sl0 Q (pc) ls st S C) := fun ls st C hK H lsA locs cells slots h => by
  subst hv
  obtain ⟨x, e1, hK⟩ := ax_li_e hK
  have hg : lsA[n]? = some (.val (.int x)) := h.2.1.2.2 _ _ e1
  obtain ⟨ls', e', h'⟩ := ax_has_st1 (v := ax_i (x + Int32.ofInt z)) h.2.1 hn rfl
  have e' : storeLocals lsA n (.int (x + Int32.ofInt z)) = some ls' := e'
  have k2 := k _ _ _ hK _ _ _ _ _ (h.loc h')
  intro T hT X0
  obtain ⟨t, a, b⟩ := k2 T hT X0
  refine ⟨t, ?_, b⟩
  have hexec := X.1
  have hb := X.2.1
  jvm_step X0.here [X0.here.top, ↓top_set X0.here.top, hexec, hb, hd, hg, e']
  exact a
def ax_iadd (K : ax_K) : ax_K := fun ls st S C => ax_pi st fun y t => ax_pi t fun x t => K ls (ax_i (x + y) :: t) S C
theorem sx_iadd (X : ax_X D p s m args meth c own cc nL) (hd : decode cc pc = .ok (.iadd, 1)) (k : (∀ ls st C, K ls st S C → ax_Z p l e R s m args below meth c D nL sl0 Q (pc + 1) ls st S C)) : (∀ ls st C, ax_iadd K ls st S C → ax_Z p l e R s m args below meth c D nL sl0 Q (pc) ls st S C) := fun ls st C hK H lsA locs cells slots h => by
  obtain ⟨y, st, rfl, hK1⟩ := ax_pi_e hK
  obtain ⟨x, st, rfl, hK2⟩ := ax_pi_e hK1
  exact lv_iadd X.1 X.2.1 hd (k _ _ _ hK2 _ _ _ _ _ h)
def ax_isub (K : ax_K) : ax_K := fun ls st S C => ax_pi st fun y t => ax_pi t fun x t => K ls (ax_i (x - y) :: t) S C
theorem sx_isub (X : ax_X D p s m args meth c own cc nL) (hd : decode cc pc = .ok (.isub, 1)) (k : (∀ ls st C, K ls st S C → ax_Z p l e R s m args below meth c D nL sl0 Q (pc + 1) ls st S C)) : (∀ ls st C, ax_isub K ls st S C → ax_Z p l e R s m args below meth c D nL sl0 Q (pc) ls st S C) := fun ls st C hK H lsA locs cells slots h => by
  obtain ⟨y, st, rfl, hK1⟩ := ax_pi_e hK
  obtain ⟨x, st, rfl, hK2⟩ := ax_pi_e hK1
  exact lv_isub X.1 X.2.1 hd (k _ _ _ hK2 _ _ _ _ _ h)
def ax_imul (K : ax_K) : ax_K := fun ls st S C => ax_pi st fun y t => ax_pi t fun x t => K ls (ax_i (x * y) :: t) S C
theorem sx_imul (X : ax_X D p s m args meth c own cc nL) (hd : decode cc pc = .ok (.imul, 1)) (k : (∀ ls st C, K ls st S C → ax_Z p l e R s m args below meth c D nL sl0 Q (pc + 1) ls st S C)) : (∀ ls st C, ax_imul K ls st S C → ax_Z p l e R s m args below meth c D nL sl0 Q (pc) ls st S C) := fun ls st C hK H lsA locs cells slots h => by
  obtain ⟨y, st, rfl, hK1⟩ := ax_pi_e hK
  obtain ⟨x, st, rfl, hK2⟩ := ax_pi_e hK1
  exact lv_imul X.1 X.2.1 hd (k _ _ _ hK2 _ _ _ _ _ h)
def ax_iand (K : ax_K) : ax_K := fun ls st S C => ax_pi st fun y t => ax_pi t fun x t => K ls (ax_i (x &&& y) :: t) S C
theorem sx_iand (X : ax_X D p s m args meth c own cc nL) (hd : decode cc pc = .ok (.iand, 1)) (k : (∀ ls st C, K ls st S C → ax_Z p l e R s m args below meth c D nL sl0 Q (pc + 1) ls st S C)) : (∀ ls st C, ax_iand K ls st S C → ax_Z p l e R s m args below meth c D nL sl0 Q (pc) ls st S C) := fun ls st C hK H lsA locs cells slots h => by
  obtain ⟨y, st, rfl, hK1⟩ := ax_pi_e hK
  obtain ⟨x, st, rfl, hK2⟩ := ax_pi_e hK1
  exact lv_iand X.1 X.2.1 hd (k _ _ _ hK2 _ _ _ _ _ h)
def ax_ladd (K : ax_K) : ax_K := fun ls st S C => ax_pl st fun y t => ax_pl t fun x t => K ls (ax_l (x + y) :: t) S C
theorem sx_ladd (X : ax_X D p s m args meth c own cc nL) (hd : decode cc pc = .ok (.ladd, 1)) (k : (∀ ls st C, K ls st S C → ax_Z p l e R s m args below meth c D nL sl0 Q (pc + 1) ls st S C)) : (∀ ls st C, ax_ladd K ls st S C → ax_Z p l e R s m args below meth c D nL sl0 Q (pc) ls st S C) := fun ls st C hK H lsA locs cells slots h => by
  obtain ⟨y, st, rfl, hK1⟩ := ax_pl_e hK
  obtain ⟨x, st, rfl, hK2⟩ := ax_pl_e hK1
  exact lv_ladd X.1 X.2.1 hd (k _ _ _ hK2 _ _ _ _ _ h)
def ax_lsub (K : ax_K) : ax_K := fun ls st S C => ax_pl st fun y t => ax_pl t fun x t => K ls (ax_l (x - y) :: t) S C
theorem sx_lsub (X : ax_X D p s m args meth c own cc nL) (hd : decode cc pc = .ok (.lsub, 1)) (k : (∀ ls st C, K ls st S C → ax_Z p l e R s m args below meth c D nL sl0 Q (pc + 1) ls st S C)) : (∀ ls st C, ax_lsub K ls st S C → ax_Z p l e R s m args below meth c D nL sl0 Q (pc) ls st S C) := fun ls st C hK H lsA locs cells slots h => by
  obtain ⟨y, st, rfl, hK1⟩ := ax_pl_e hK
  obtain ⟨x, st, rfl, hK2⟩ := ax_pl_e hK1
  exact lv_lsub X.1 X.2.1 hd (k _ _ _ hK2 _ _ _ _ _ h)
def ax_lmul (K : ax_K) : ax_K := fun ls st S C => ax_pl st fun y t => ax_pl t fun x t => K ls (ax_l (x * y) :: t) S C
theorem sx_lmul (X : ax_X D p s m args meth c own cc nL) (hd : decode cc pc = .ok (.lmul, 1)) (k : (∀ ls st C, K ls st S C → ax_Z p l e R s m args below meth c D nL sl0 Q (pc + 1) ls st S C)) : (∀ ls st C, ax_lmul K ls st S C → ax_Z p l e R s m args below meth c D nL sl0 Q (pc) ls st S C) := fun ls st C hK H lsA locs cells slots h => by
  obtain ⟨y, st, rfl, hK1⟩ := ax_pl_e hK
  obtain ⟨x, st, rfl, hK2⟩ := ax_pl_e hK1
  exact lv_lmul X.1 X.2.1 hd (k _ _ _ hK2 _ _ _ _ _ h)
def ax_idiv (K : ax_K) : ax_K := fun ls st S C => ax_pi st fun y t => ax_pi t fun x t => ¬ y = 0 ∧ K ls (ax_i (x / y) :: t) S C
theorem sx_idiv (X : ax_X D p s m args meth c own cc nL) (hd : decode cc pc = .ok (.idiv, 1)) (k : (∀ ls st C, K ls st S C → ax_Z p l e R s m args below meth c D nL sl0 Q (pc + 1) ls st S C)) : (∀ ls st C, ax_idiv K ls st S C → ax_Z p l e R s m args below meth c D nL sl0 Q (pc) ls st S C) := fun ls st C hK H lsA locs cells slots h => by
  obtain ⟨y, st, rfl, hK1⟩ := ax_pi_e hK
  obtain ⟨x, st, rfl, hK2⟩ := ax_pi_e hK1
  exact lv_idiv X.1 X.2.1 hd hK2.1 (k _ _ _ hK2.2 _ _ _ _ _ h)
def ax_irem (K : ax_K) : ax_K := fun ls st S C => ax_pi st fun y t => ax_pi t fun x t => ¬ y = 0 ∧ K ls (ax_i (x - x / y * y) :: t) S C
theorem sx_irem (X : ax_X D p s m args meth c own cc nL) (hd : decode cc pc = .ok (.irem, 1)) (k : (∀ ls st C, K ls st S C → ax_Z p l e R s m args below meth c D nL sl0 Q (pc + 1) ls st S C)) : (∀ ls st C, ax_irem K ls st S C → ax_Z p l e R s m args below meth c D nL sl0 Q (pc) ls st S C) := fun ls st C hK H lsA locs cells slots h => by
  obtain ⟨y, st, rfl, hK1⟩ := ax_pi_e hK
  obtain ⟨x, st, rfl, hK2⟩ := ax_pi_e hK1
  exact lv_irem X.1 X.2.1 hd hK2.1 (k _ _ _ hK2.2 _ _ _ _ _ h)
def ax_ldiv (K : ax_K) : ax_K := fun ls st S C => ax_pl st fun y t => ax_pl t fun x t => ¬ y = 0 ∧ K ls (ax_l (x / y) :: t) S C
theorem sx_ldiv (X : ax_X D p s m args meth c own cc nL) (hd : decode cc pc = .ok (.ldiv, 1)) (k : (∀ ls st C, K ls st S C → ax_Z p l e R s m args below meth c D nL sl0 Q (pc + 1) ls st S C)) : (∀ ls st C, ax_ldiv K ls st S C → ax_Z p l e R s m args below meth c D nL sl0 Q (pc) ls st S C) := fun ls st C hK H lsA locs cells slots h => by
  obtain ⟨y, st, rfl, hK1⟩ := ax_pl_e hK
  obtain ⟨x, st, rfl, hK2⟩ := ax_pl_e hK1
  exact lv_ldiv X.1 X.2.1 hd hK2.1 (k _ _ _ hK2.2 _ _ _ _ _ h)
def ax_lrem (K : ax_K) : ax_K := fun ls st S C => ax_pl st fun y t => ax_pl t fun x t => ¬ y = 0 ∧ K ls (ax_l (x - x / y * y) :: t) S C
theorem sx_lrem (X : ax_X D p s m args meth c own cc nL) (hd : decode cc pc = .ok (.lrem, 1)) (k : (∀ ls st C, K ls st S C → ax_Z p l e R s m args below meth c D nL sl0 Q (pc + 1) ls st S C)) : (∀ ls st C, ax_lrem K ls st S C → ax_Z p l e R s m args below meth c D nL sl0 Q (pc) ls st S C) := fun ls st C hK H lsA locs cells slots h => by
  obtain ⟨y, st, rfl, hK1⟩ := ax_pl_e hK
  obtain ⟨x, st, rfl, hK2⟩ := ax_pl_e hK1
  exact lv_lrem X.1 X.2.1 hd hK2.1 (k _ _ _ hK2.2 _ _ _ _ _ h)
def ax_ineg (K : ax_K) : ax_K := fun ls st S C => ax_pi st fun x t => K ls (ax_i (-x) :: t) S C
theorem sx_ineg (X : ax_X D p s m args meth c own cc nL) (hd : decode cc pc = .ok (.ineg, 1)) (k : (∀ ls st C, K ls st S C → ax_Z p l e R s m args below meth c D nL sl0 Q (pc + 1) ls st S C)) : (∀ ls st C, ax_ineg K ls st S C → ax_Z p l e R s m args below meth c D nL sl0 Q (pc) ls st S C) := fun ls st C hK H lsA locs cells slots h => by
  obtain ⟨x, st, rfl, hK1⟩ := ax_pi_e hK
  exact lv_ineg X.1 X.2.1 hd (k _ _ _ hK1 _ _ _ _ _ h)
def ax_lneg (K : ax_K) : ax_K := fun ls st S C => ax_pl st fun x t => K ls (ax_l (-x) :: t) S C
theorem sx_lneg (X : ax_X D p s m args meth c own cc nL) (hd : decode cc pc = .ok (.lneg, 1)) (k : (∀ ls st C, K ls st S C → ax_Z p l e R s m args below meth c D nL sl0 Q (pc + 1) ls st S C)) : (∀ ls st C, ax_lneg K ls st S C → ax_Z p l e R s m args below meth c D nL sl0 Q (pc) ls st S C) := fun ls st C hK H lsA locs cells slots h => by
  obtain ⟨x, st, rfl, hK1⟩ := ax_pl_e hK
  exact lv_lneg X.1 X.2.1 hd (k _ _ _ hK1 _ _ _ _ _ h)
def ax_i2l (K : ax_K) : ax_K := fun ls st S C => ax_pi st fun x t => K ls (ax_l x.toInt64 :: t) S C
theorem sx_i2l (X : ax_X D p s m args meth c own cc nL) (hd : decode cc pc = .ok (.i2l, 1)) (k : (∀ ls st C, K ls st S C → ax_Z p l e R s m args below meth c D nL sl0 Q (pc + 1) ls st S C)) : (∀ ls st C, ax_i2l K ls st S C → ax_Z p l e R s m args below meth c D nL sl0 Q (pc) ls st S C) := fun ls st C hK H lsA locs cells slots h => by
  obtain ⟨x, st, rfl, hK1⟩ := ax_pi_e hK
  exact lv_i2l X.1 X.2.1 hd rfl (k _ _ _ hK1 _ _ _ _ _ h)
def ax_l2i (K : ax_K) : ax_K := fun ls st S C => ax_pl st fun x t => K ls (ax_i x.toInt32 :: t) S C
theorem sx_l2i (X : ax_X D p s m args meth c own cc nL) (hd : decode cc pc = .ok (.l2i, 1)) (k : (∀ ls st C, K ls st S C → ax_Z p l e R s m args below meth c D nL sl0 Q (pc + 1) ls st S C)) : (∀ ls st C, ax_l2i K ls st S C → ax_Z p l e R s m args below meth c D nL sl0 Q (pc) ls st S C) := fun ls st C hK H lsA locs cells slots h => by
  obtain ⟨x, st, rfl, hK1⟩ := ax_pl_e hK
  exact lv_l2i X.1 X.2.1 hd rfl (k _ _ _ hK1 _ _ _ _ _ h)
def ax_i2b (K : ax_K) : ax_K := fun ls st S C => ax_pi st fun x t => K ls (ax_i x.toInt8.toInt32 :: t) S C
theorem sx_i2b (X : ax_X D p s m args meth c own cc nL) (hd : decode cc pc = .ok (.i2b, 1)) (k : (∀ ls st C, K ls st S C → ax_Z p l e R s m args below meth c D nL sl0 Q (pc + 1) ls st S C)) : (∀ ls st C, ax_i2b K ls st S C → ax_Z p l e R s m args below meth c D nL sl0 Q (pc) ls st S C) := fun ls st C hK H lsA locs cells slots h => by
  obtain ⟨x, st, rfl, hK1⟩ := ax_pi_e hK
  exact lv_i2b X.1 X.2.1 hd rfl (k _ _ _ hK1 _ _ _ _ _ h)
def ax_dup (K : ax_K) : ax_K := fun ls st S C => match st with
  | .inl x :: t => K ls (ax_i x :: ax_i x :: t) S C
  | .inr (.inr x) :: t => K ls (ax_r x :: ax_r x :: t) S C
  | _ => False
theorem sx_dup (X : ax_X D p s m args meth c own cc nL) (hd : decode cc pc = .ok (.dup, 1)) (k : (∀ ls st C, K ls st S C → ax_Z p l e R s m args below meth c D nL sl0 Q (pc + 1) ls st S C)) : (∀ ls st C, ax_dup K ls st S C → ax_Z p l e R s m args below meth c D nL sl0 Q (pc) ls st S C) := fun ls st C hK H lsA locs cells slots h => by
  unfold ax_dup at hK
  split at hK
  · exact lv_dup X.1 X.2.1 hd rfl (k _ _ _ hK _ _ _ _ _ h)
  · rename_i x t
    have k2 := k _ _ _ hK _ _ _ _ _ h
    cases x <;> exact lv_dup X.1 X.2.1 hd rfl k2
  · exact hK.elim
def ax_dup2 (K : ax_K) : ax_K := fun ls st S C => ax_pi st fun y t => ax_pr t fun x t => K ls (ax_i y :: ax_r x :: ax_i y :: ax_r x :: t) S C
theorem sx_dup2 (X : ax_X D p s m args meth c own cc nL) (hd : decode cc pc = .ok (.dup2, 1)) (k : (∀ ls st C, K ls st S C → ax_Z p l e R s m args below meth c D nL sl0 Q (pc + 1) ls st S C)) : (∀ ls st C, ax_dup2 K ls st S C → ax_Z p l e R s m args below meth c D nL sl0 Q (pc) ls st S C) := fun ls st C hK H lsA locs cells slots h => by
  obtain ⟨y, st, rfl, hK1⟩ := ax_pi_e hK
  obtain ⟨x, st, rfl, hK2⟩ := ax_pr_e hK1
  have k2 := k _ _ _ hK2 _ _ _ _ _ h
  cases x <;> exact lv_dup2_11 X.1 X.2.1 hd rfl rfl k2
def ax_ifeq (K1 K2 : ax_K) : ax_K := fun ls st S C => ax_pi st fun x t => (x = 0 → K1 ls t S C) ∧ (¬ x = 0 → K2 ls t S C)
theorem sx_ifeq (X : ax_X D p s m args meth c own cc nL) {off : Int} {tgt : Nat} (hd : decode cc pc = .ok (.ifCond .eq off, 3)) (ht : (pc : Int) + off = (tgt : Int)) (k1 : (∀ ls st C, K1 ls st S C → ax_Z p l e R s m args below meth c D nL sl0 Q (tgt) ls st S C)) (k2 : (∀ ls st C, K2 ls st S C → ax_Z p l e R s m args below meth c D nL sl0 Q (pc + 3) ls st S C)) : (∀ ls st C, ax_ifeq K1 K2 ls st S C → ax_Z p l e R s m args below meth c D nL sl0 Q (pc) ls st S C) := fun ls st C hK H lsA locs cells slots h => by
  obtain ⟨x, st, rfl, hK1⟩ := ax_pi_e hK
  exact lv_if_eq X.1 X.2.1 hd ht (fun q => k1 _ _ _ (hK1.1 q) _ _ _ _ _ h) (fun q => k2 _ _ _ (hK1.2 q) _ _ _ _ _ h)
def ax_iceq (K1 K2 : ax_K) : ax_K := fun ls st S C => ax_pi st fun y t => ax_pi t fun x t => (x = y → K1 ls t S C) ∧ (¬ x = y → K2 ls t S C)
theorem sx_iceq (X : ax_X D p s m args meth c own cc nL) {off : Int} {tgt : Nat} (hd : decode cc pc = .ok (.if_icmp .eq off, 3)) (ht : (pc : Int) + off = (tgt : Int)) (k1 : (∀ ls st C, K1 ls st S C → ax_Z p l e R s m args below meth c D nL sl0 Q (tgt) ls st S C)) (k2 : (∀ ls st C, K2 ls st S C → ax_Z p l e R s m args below meth c D nL sl0 Q (pc + 3) ls st S C)) : (∀ ls st C, ax_iceq K1 K2 ls st S C → ax_Z p l e R s m args below meth c D nL sl0 Q (pc) ls st S C) := fun ls st C hK H lsA locs cells slots h => by
  obtain ⟨y, st, rfl, hK1⟩ := ax_pi_e hK
  obtain ⟨x, st, rfl, hK2⟩ := ax_pi_e hK1
  exact lv_icmp_eq X.1 X.2.1 hd ht (fun q => k1 _ _ _ (hK2.1 q) _ _ _ _ _ h) (fun q => k2 _ _ _ (hK2.2 q) _ _ _ _ _ h)
def ax_ifne (K1 K2 : ax_K) : ax_K := fun ls st S C => ax_pi st fun x t => (¬ x = 0 → K1 ls t S C) ∧ (x = 0 → K2 ls t S C)
theorem sx_ifne (X : ax_X D p s m args meth c own cc nL) {off : Int} {tgt : Nat} (hd : decode cc pc = .ok (.ifCond .ne off, 3)) (ht : (pc : Int) + off = (tgt : Int)) (k1 : (∀ ls st C, K1 ls st S C → ax_Z p l e R s m args below meth c D nL sl0 Q (tgt) ls st S C)) (k2 : (∀ ls st C, K2 ls st S C → ax_Z p l e R s m args below meth c D nL sl0 Q (pc + 3) ls st S C)) : (∀ ls st C, ax_ifne K1 K2 ls st S C → ax_Z p l e R s m args below meth c D nL sl0 Q (pc) ls st S C) := fun ls st C hK H lsA locs cells slots h => by
  obtain ⟨x, st, rfl, hK1⟩ := ax_pi_e hK
  exact lv_if_ne X.1 X.2.1 hd ht (fun q => k1 _ _ _ (hK1.1 q) _ _ _ _ _ h) (fun q => k2 _ _ _ (hK1.2 q) _ _ _ _ _ h)
def ax_icne (K1 K2 : ax_K) : ax_K := fun ls st S C => ax_pi st fun y t => ax_pi t fun x t => (¬ x = y → K1 ls t S C) ∧ (x = y → K2 ls t S C)
theorem sx_icne (X : ax_X D p s m args meth c own cc nL) {off : Int} {tgt : Nat} (hd : decode cc pc = .ok (.if_icmp .ne off, 3)) (ht : (pc : Int) + off = (tgt : Int)) (k1 : (∀ ls st C, K1 ls st S C → ax_Z p l e R s m args below meth c D nL sl0 Q (tgt) ls st S C)) (k2 : (∀ ls st C, K2 ls st S C → ax_Z p l e R s m args below meth c D nL sl0 Q (pc + 3) ls st S C)) : (∀ ls st C, ax_icne K1 K2 ls st S C → ax_Z p l e R s m args below meth c D nL sl0 Q (pc) ls st S C) := fun ls st C hK H lsA locs cells slots h => by
  obtain ⟨y, st, rfl, hK1⟩ := ax_pi_e hK
  obtain ⟨x, st, rfl, hK2⟩ := ax_pi_e hK1
  exact lv_icmp_ne X.1 X.2.1 hd ht (fun q => k1 _ _ _ (hK2.1 q) _ _ _ _ _ h) (fun q => k2 _ _ _ (hK2.2 q) _ _ _ _ _ h)
def ax_iflt (K1 K2 : ax_K) : ax_K := fun ls st S C => ax_pi st fun x t => (x < 0 → K1 ls t S C) ∧ (¬ x < 0 → K2 ls t S C)
theorem sx_iflt (X : ax_X D p s m args meth c own cc nL) {off : Int} {tgt : Nat} (hd : decode cc pc = .ok (.ifCond .lt off, 3)) (ht : (pc : Int) + off = (tgt : Int)) (k1 : (∀ ls st C, K1 ls st S C → ax_Z p l e R s m args below meth c D nL sl0 Q (tgt) ls st S C)) (k2 : (∀ ls st C, K2 ls st S C → ax_Z p l e R s m args below meth c D nL sl0 Q (pc + 3) ls st S C)) : (∀ ls st C, ax_iflt K1 K2 ls st S C → ax_Z p l e R s m args below meth c D nL sl0 Q (pc) ls st S C) := fun ls st C hK H lsA locs cells slots h => by
  obtain ⟨x, st, rfl, hK1⟩ := ax_pi_e hK
  exact lv_if_lt X.1 X.2.1 hd ht (fun q => k1 _ _ _ (hK1.1 q) _ _ _ _ _ h) (fun q => k2 _ _ _ (hK1.2 q) _ _ _ _ _ h)
def ax_iclt (K1 K2 : ax_K) : ax_K := fun ls st S C => ax_pi st fun y t => ax_pi t fun x t => (x < y → K1 ls t S C) ∧ (¬ x < y → K2 ls t S C)
theorem sx_iclt (X : ax_X D p s m args meth c own cc nL) {off : Int} {tgt : Nat} (hd : decode cc pc = .ok (.if_icmp .lt off, 3)) (ht : (pc : Int) + off = (tgt : Int)) (k1 : (∀ ls st C, K1 ls st S C → ax_Z p l e R s m args below meth c D nL sl0 Q (tgt) ls st S C)) (k2 : (∀ ls st C, K2 ls st S C → ax_Z p l e R s m args below meth c D nL sl0 Q (pc + 3) ls st S C)) : (∀ ls st C, ax_iclt K1 K2 ls st S C → ax_Z p l e R s m args below meth c D nL sl0 Q (pc) ls st S C) := fun ls st C hK H lsA locs cells slots h => by
  obtain ⟨y, st, rfl, hK1⟩ := ax_pi_e hK
  obtain ⟨x, st, rfl, hK2⟩ := ax_pi_e hK1
  exact lv_icmp_lt X.1 X.2.1 hd ht (fun q => k1 _ _ _ (hK2.1 q) _ _ _ _ _ h) (fun q => k2 _ _ _ (hK2.2 q) _ _ _ _ _ h)
def ax_ifge (K1 K2 : ax_K) : ax_K := fun ls st S C => ax_pi st fun x t => (0 ≤ x → K1 ls t S C) ∧ (¬ 0 ≤ x → K2 ls t S C)
theorem sx_ifge (X : ax_X D p s m args meth c own cc nL) {off : Int} {tgt : Nat} (hd : decode cc pc = .ok (.ifCond .ge off, 3)) (ht : (pc : Int) + off = (tgt : Int)) (k1 : (∀ ls st C, K1 ls st S C → ax_Z p l e R s m args below meth c D nL sl0 Q (tgt) ls st S C)) (k2 : (∀ ls st C, K2 ls st S C → ax_Z p l e R s m args below meth c D nL sl0 Q (pc + 3) ls st S C)) : (∀ ls st C, ax_ifge K1 K2 ls st S C → ax_Z p l e R s m args below meth c D nL sl0 Q (pc) ls st S C) := fun ls st C hK H lsA locs cells slots h => by
  obtain ⟨x, st, rfl, hK1⟩ := ax_pi_e hK
  exact lv_if_ge X.1 X.2.1 hd ht (fun q => k1 _ _ _ (hK1.1 q) _ _ _ _ _ h) (fun q => k2 _ _ _ (hK1.2 q) _ _ _ _ _ h)
def ax_icge (K1 K2 : ax_K) : ax_K := fun ls st S C => ax_pi st fun y t => ax_pi t fun x t => (y ≤ x → K1 ls t S C) ∧ (¬ y ≤ x → K2 ls t S C)
theorem sx_icge (X : ax_X D p s m args meth c own cc nL) {off : Int} {tgt : Nat} (hd : decode cc pc = .ok (.if_icmp .ge off, 3)) (ht : (pc : Int) + off = (tgt : Int)) (k1 : (∀ ls st C, K1 ls st S C → ax_Z p l e R s m args below meth c D nL sl0 Q (tgt) ls st S C)) (k2 : (∀ ls st C, K2 ls st S C → ax_Z p l e R s m args below meth c D nL sl0 Q (pc + 3) ls st S C)) : (∀ ls st C, ax_icge K1 K2 ls st S C → ax_Z p l e R s m args below meth c D nL sl0 Q (pc) ls st S C) := fun ls st C hK H lsA locs cells slots h => by
  obtain ⟨y, st, rfl, hK1⟩ := ax_pi_e hK
  obtain ⟨x, st, rfl, hK2⟩ := ax_pi_e hK1
  exact lv_icmp_ge X.1 X.2.1 hd ht (fun q => k1 _ _ _ (hK2.1 q) _ _ _ _ _ h) (fun q => k2 _ _ _ (hK2.2 q) _ _ _ _ _ h)
def ax_ifgt (K1 K2 : ax_K) : ax_K := fun ls st S C => ax_pi st fun x t => (0 < x → K1 ls t S C) ∧ (¬ 0 < x → K2 ls t S C)
theorem sx_ifgt (X : ax_X D p s m args meth c own cc nL) {off : Int} {tgt : Nat} (hd : decode cc pc = .ok (.ifCond .gt off, 3)) (ht : (pc : Int) + off = (tgt : Int)) (k1 : (∀ ls st C, K1 ls st S C → ax_Z p l e R s m args below meth c D nL sl0 Q (tgt) ls st S C)) (k2 : (∀ ls st C, K2 ls st S C → ax_Z p l e R s m args below meth c D nL sl0 Q (pc + 3) ls st S C)) : (∀ ls st C, ax_ifgt K1 K2 ls st S C → ax_Z p l e R s m args below meth c D nL sl0 Q (pc) ls st S C) := fun ls st C hK H lsA locs cells slots h => by
  obtain ⟨x, st, rfl, hK1⟩ := ax_pi_e hK
  exact lv_if_gt X.1 X.2.1 hd ht (fun q => k1 _ _ _ (hK1.1 q) _ _ _ _ _ h) (fun q => k2 _ _ _ (hK1.2 q) _ _ _ _ _ h)
def ax_icgt (K1 K2 : ax_K) : ax_K := fun ls st S C => ax_pi st fun y t => ax_pi t fun x t => (y < x → K1 ls t S C) ∧ (¬ y < x → K2 ls t S C)
theorem sx_icgt (X : ax_X D p s m args meth c own cc nL) {off : Int} {tgt : Nat} (hd : decode cc pc = .ok (.if_icmp .gt off, 3)) (ht : (pc : Int) + off = (tgt : Int)) (k1 : (∀ ls st C, K1 ls st S C → ax_Z p l e R s m args below meth c D nL sl0 Q (tgt) ls st S C)) (k2 : (∀ ls st C, K2 ls st S C → ax_Z p l e R s m args below meth c D nL sl0 Q (pc + 3) ls st S C)) : (∀ ls st C, ax_icgt K1 K2 ls st S C → ax_Z p l e R s m args below meth c D nL sl0 Q (pc) ls st S C) := fun ls st C hK H lsA locs cells slots h => by
  obtain ⟨y, st, rfl, hK1⟩ := ax_pi_e hK
  obtain ⟨x, st, rfl, hK2⟩ := ax_pi_e hK1
  exact lv_icmp_gt X.1 X.2.1 hd ht (fun q => k1 _ _ _ (hK2.1 q) _ _ _ _ _ h) (fun q => k2 _ _ _ (hK2.2 q) _ _ _ _ _ h)
def ax_ifle (K1 K2 : ax_K) : ax_K := fun ls st S C => ax_pi st fun x t => (x ≤ 0 → K1 ls t S C) ∧ (¬ x ≤ 0 → K2 ls t S C)
theorem sx_ifle (X : ax_X D p s m args meth c own cc nL) {off : Int} {tgt : Nat} (hd : decode cc pc = .ok (.ifCond .le off, 3)) (ht : (pc : Int) + off = (tgt : Int)) (k1 : (∀ ls st C, K1 ls st S C → ax_Z p l e R s m args below meth c D nL sl0 Q (tgt) ls st S C)) (k2 : (∀ ls st C, K2 ls st S C → ax_Z p l e R s m args below meth c D nL sl0 Q (pc + 3) ls st S C)) : (∀ ls st C, ax_ifle K1 K2 ls st S C → ax_Z p l e R s m args below meth c D nL sl0 Q (pc) ls st S C) := fun ls st C hK H lsA locs cells slots h => by
  obtain ⟨x, st, rfl, hK1⟩ := ax_pi_e hK
  exact lv_if_le X.1 X.2.1 hd ht (fun q => k1 _ _ _ (hK1.1 q) _ _ _ _ _ h) (fun q => k2 _ _ _ (hK1.2 q) _ _ _ _ _ h)
def ax_icle (K1 K2 : ax_K) : ax_K := fun ls st S C => ax_pi st fun y t => ax_pi t fun x t => (x ≤ y → K1 ls t S C) ∧ (¬ x ≤ y → K2 ls t S C)
theorem sx_icle (X : ax_X D p s m args meth c own cc nL) {off : Int} {tgt : Nat} (hd : decode cc pc = .ok (.if_icmp .le off, 3)) (ht : (pc : Int) + off = (tgt : Int)) (k1 : (∀ ls st C, K1 ls st S C → ax_Z p l e R s m args below meth c D nL sl0 Q (tgt) ls st S C)) (k2 : (∀ ls st C, K2 ls st S C → ax_Z p l e R s m args below meth c D nL sl0 Q (pc + 3) ls st S C)) : (∀ ls st C, ax_icle K1 K2 ls st S C → ax_Z p l e R s m args below meth c D nL sl0 Q (pc) ls st S C) := fun ls st C hK H lsA locs cells slots h => by
  obtain ⟨y, st, rfl, hK1⟩ := ax_pi_e hK
  obtain ⟨x, st, rfl, hK2⟩ := ax_pi_e hK1
  exact lv_icmp_le X.1 X.2.1 hd ht (fun q => k1 _ _ _ (hK2.1 q) _ _ _ _ _ h) (fun q => k2 _ _ _ (hK2.2 q) _ _ _ _ _ h)
def ax_ifnull (K1 K2 : ax_K) : ax_K := fun ls st S C => ax_pr st fun x t => (x = none → K1 ls t S C) ∧ (∀ a, x = some a → K2 ls t S C)
theorem sx_ifnull (X : ax_X D p s m args meth c own cc nL) {off : Int} {tgt : Nat} (hd : decode cc pc = .ok (.ifnull off, 3)) (ht : (pc : Int) + off = (tgt : Int)) (k1 : (∀ ls st C, K1 ls st S C → ax_Z p l e R s m args below meth c D nL sl0 Q (tgt) ls st S C)) (k2 : (∀ ls st C, K2 ls st S C → ax_Z p l e R s m args below meth c D nL sl0 Q (pc + 3) ls st S C)) : (∀ ls st C, ax_ifnull K1 K2 ls st S C → ax_Z p l e R s m args below meth c D nL sl0 Q (pc) ls st S C) := fun ls st C hK H lsA locs cells slots h => by
  obtain ⟨x, st, rfl, hK1⟩ := ax_pr_e hK
  cases x with
  | none => exact lv_ifnullN X.1 X.2.1 hd ht (k1 _ _ _ (hK1.1 rfl) _ _ _ _ _ h)
  | some a => exact lv_ifnull X.1 X.2.1 hd (k2 _ _ _ (hK1.2 a rfl) _ _ _ _ _ h)
def ax_ifnonnull (K1 K2 : ax_K) : ax_K := fun ls st S C => ax_pr st fun x t => (∀ a, x = some a → K1 ls t S C) ∧ (x = none → K2 ls t S C)
theorem sx_ifnonnull (X : ax_X D p s m args meth c own cc nL) {off : Int} {tgt : Nat} (hd : decode cc pc = .ok (.ifnonnull off, 3)) (ht : (pc : Int) + off = (tgt : Int)) (k1 : (∀ ls st C, K1 ls st S C → ax_Z p l e R s m args below meth c D nL sl0 Q (tgt) ls st S C)) (k2 : (∀ ls st C, K2 ls st S C → ax_Z p l e R s m args below meth c D nL sl0 Q (pc + 3) ls st S C)) : (∀ ls st C, ax_ifnonnull K1 K2 ls st S C → ax_Z p l e R s m args below meth c D nL sl0 Q (pc) ls st S C) := fun ls st C hK H lsA locs cells slots h => by
  obtain ⟨x, st, rfl, hK1⟩ := ax_pr_e hK
  cases x with
  | none => exact lv_ifnonnullN X.1 X.2.1 hd (k2 _ _ _ (hK1.2 rfl) _ _ _ _ _ h)
  | some a => exact lv_ifnonnull X.1 X.2.1 hd ht (k1 _ _ _ (hK1.1 a rfl) _ _ _ _ _ h)
theorem sx_goto (X : ax_X D p s m args meth c own cc nL) {off : Int} {tgt : Nat} (hd : decode cc pc = .ok (.goto off, 3)) (ht : (pc : Int) + off = (tgt : Int)) (k : (∀ ls st C, K ls st S C → ax_Z p l e R s m args below meth c D nL sl0 Q (tgt) ls st S C)) : (∀ ls st C, K ls st S C → ax_Z p l e R s m args below meth c D nL sl0 Q (pc) ls st S C) := fun ls st C hK H lsA locs cells slots h => lv_goto X.1 X.2.1 hd ht (k _ _ _ hK _ _ _ _ _ h)
theorem ax_lcmp0 (x y : Int64) : (lg_cmp x y = 0 ↔ x = y) ∧ (lg_cmp x y < 0 ↔ x < y) ∧ (0 ≤ lg_cmp x y ↔ y ≤ x) ∧ (0 < lg_cmp x y ↔ y < x) ∧ (lg_cmp x y ≤ 0 ↔ x ≤ y) := by
  unfold lg_cmp
  by_cases h1 : y < x
  · have h2 : ¬ x = y := fun q => by subst q; exact Int64.lt_irrefl h1
    have h3 : ¬ x < y := fun q => Int64.lt_irrefl (Int64.lt_trans q h1)
    have h4 : y ≤ x := Int64.le_of_lt h1
    have h5 : ¬ x ≤ y := fun q => Int64.lt_irrefl (Int64.lt_of_lt_of_le h1 q)
    simp only [if_pos h1, h1, h2, h3, h4, h5]
    decide
  · by_cases h2 : x = y
    · subst h2
      simp only [if_neg h1, h1]
      have h4 : x ≤ x := Int64.le_refl x
      simp [h4]
    · have h4 : ¬ y ≤ x := fun q => h1 (Int64.lt_of_le_of_ne q (fun z => h2 z.symm))
      have h3 : x < y := Int64.not_le.mp h4
      have h5 : x ≤ y := Int64.le_of_lt h3
      simp only [if_neg h1, if_neg h2, h1, h2, h3, h4, h5]
      decide
def ax_lceq (K1 K2 : ax_K) : ax_K := fun ls st S C => ax_pl st fun y t => ax_pl t fun x t => (x = y → K1 ls t S C) ∧ (¬ x = y → K2 ls t S C)
theorem sx_lceq (X : ax_X D p s m args meth c own cc nL) {off : Int} {tgt : Nat} (hd0 : decode cc pc = .ok (.lcmp, 1)) (hd : decode cc (pc + 1) = .ok (.ifCond .eq off, 3)) (ht : ((pc + 1 : Nat) : Int) + off = (tgt : Int)) (k1 : (∀ ls st C, K1 ls st S C → ax_Z p l e R s m args below meth c D nL sl0 Q (tgt) ls st S C)) (k2 : (∀ ls st C, K2 ls st S C → ax_Z p l e R s m args below meth c D nL sl0 Q (pc + 1 + 3) ls st S C)) : (∀ ls st C, ax_lceq K1 K2 ls st S C → ax_Z p l e R s m args below meth c D nL sl0 Q (pc) ls st S C) := fun ls st C hK H lsA locs cells slots h => by
  obtain ⟨y, st, rfl, hK1⟩ := ax_pl_e hK
  obtain ⟨x, st, rfl, hK2⟩ := ax_pl_e hK1
  exact W.lcmp X.1 X.2.1 hd0 (lv_if_eq X.1 X.2.1 hd ht (fun q => k1 _ _ _ (hK2.1 ((ax_lcmp0 x y).1.mp q)) _ _ _ _ _ h) (fun q => k2 _ _ _ (hK2.2 (fun z => q ((ax_lcmp0 x y).1.mpr z))) _ _ _ _ _ h))
def ax_lcne (K1 K2 : ax_K) : ax_K := fun ls st S C => ax_pl st fun y t => ax_pl t fun x t => (¬ x = y → K1 ls t S C) ∧ (x = y → K2 ls t S C)
theorem sx_lcne (X : ax_X D p s m args meth c own cc nL) {off : Int} {tgt : Nat} (hd0 : decode cc pc = .ok (.lcmp, 1)) (hd : decode cc (pc + 1) = .ok (.ifCond .ne off, 3)) (ht : ((pc + 1 : Nat) : Int) + off = (tgt : Int)) (k1 : (∀ ls st C, K1 ls st S C → ax_Z p l e R s m args below meth c D nL sl0 Q (tgt) ls st S C)) (k2 : (∀ ls st C, K2 ls st S C → ax_Z p l e R s m args below meth c D nL sl0 Q (pc + 1 + 3) ls st S C)) : (∀ ls st C, ax_lcne K1 K2 ls st S C → ax_Z p l e R s m args below meth c D nL sl0 Q (pc) ls st S C) := fun ls st C hK H lsA locs cells slots h => by
  obtain ⟨y, st, rfl, hK1⟩ := ax_pl_e hK
  obtain ⟨x, st, rfl, hK2⟩ := ax_pl_e hK1
  exact W.lcmp X.1 X.2.1 hd0 (lv_if_ne X.1 X.2.1 hd ht (fun q => k1 _ _ _ (hK2.1 (fun z => q ((ax_lcmp0 x y).1.mpr z))) _ _ _ _ _ h) (fun q => k2 _ _ _ (hK2.2 ((ax_lcmp0 x y).1.mp q)) _ _ _ _ _ h))
def ax_lclt (K1 K2 : ax_K) : ax_K := fun ls st S C => ax_pl st fun y t => ax_pl t fun x t => (x < y → K1 ls t S C) ∧ (¬ x < y → K2 ls t S C)
theorem sx_lclt (X : ax_X D p s m args meth c own cc nL) {off : Int} {tgt : Nat} (hd0 : decode cc pc = .ok (.lcmp, 1)) (hd : decode cc (pc + 1) = .ok (.ifCond .lt off, 3)) (ht : ((pc + 1 : Nat) : Int) + off = (tgt : Int)) (k1 : (∀ ls st C, K1 ls st S C → ax_Z p l e R s m args below meth c D nL sl0 Q (tgt) ls st S C)) (k2 : (∀ ls st C, K2 ls st S C → ax_Z p l e R s m args below meth c D nL sl0 Q (pc + 1 + 3) ls st S C)) : (∀ ls st C, ax_lclt K1 K2 ls st S C → ax_Z p l e R s m args below meth c D nL sl0 Q (pc) ls st S C) := fun ls st C hK H lsA locs cells slots h => by
  obtain ⟨y, st, rfl, hK1⟩ := ax_pl_e hK
  obtain ⟨x, st, rfl, hK2⟩ := ax_pl_e hK1
  exact W.lcmp X.1 X.2.1 hd0 (lv_if_lt X.1 X.2.1 hd ht (fun q => k1 _ _ _ (hK2.1 ((ax_lcmp0 x y).2.1.mp q)) _ _ _ _ _ h) (fun q => k2 _ _ _ (hK2.2 (fun z => q ((ax_lcmp0 x y).2.1.mpr z))) _ _ _ _ _ h))
def ax_lcge (K1 K2 : ax_K) : ax_K := fun ls st S C => ax_pl st fun y t => ax_pl t fun x t => (y ≤ x → K1 ls t S C) ∧ (¬ y ≤ x → K2 ls t S C)
theorem sx_lcge (X : ax_X D p s m args meth c own cc nL) {off : Int} {tgt : Nat} (hd0 : decode cc pc = .ok (.lcmp, 1)) (hd : decode cc (pc + 1) = .ok (.ifCond .ge off, 3)) (ht : ((pc + 1 : Nat) : Int) + off = (tgt : Int)) (k1 : (∀ ls st C, K1 ls st S C → ax_Z p l e R s m args below meth c D nL sl0 Q (tgt) ls st S C)) (k2 : (∀ ls st C, K2 ls st S C → ax_Z p l e R s m args below meth c D nL sl0 Q (pc + 1 + 3) ls st S C)) : (∀ ls st C, ax_lcge K1 K2 ls st S C → ax_Z p l e R s m args below meth c D nL sl0 Q (pc) ls st S C) := fun ls st C hK H lsA locs cells slots h => by
  obtain ⟨y, st, rfl, hK1⟩ := ax_pl_e hK
  obtain ⟨x, st, rfl, hK2⟩ := ax_pl_e hK1
  exact W.lcmp X.1 X.2.1 hd0 (lv_if_ge X.1 X.2.1 hd ht (fun q => k1 _ _ _ (hK2.1 ((ax_lcmp0 x y).2.2.1.mp q)) _ _ _ _ _ h) (fun q => k2 _ _ _ (hK2.2 (fun z => q ((ax_lcmp0 x y).2.2.1.mpr z))) _ _ _ _ _ h))
def ax_lcgt (K1 K2 : ax_K) : ax_K := fun ls st S C => ax_pl st fun y t => ax_pl t fun x t => (y < x → K1 ls t S C) ∧ (¬ y < x → K2 ls t S C)
theorem sx_lcgt (X : ax_X D p s m args meth c own cc nL) {off : Int} {tgt : Nat} (hd0 : decode cc pc = .ok (.lcmp, 1)) (hd : decode cc (pc + 1) = .ok (.ifCond .gt off, 3)) (ht : ((pc + 1 : Nat) : Int) + off = (tgt : Int)) (k1 : (∀ ls st C, K1 ls st S C → ax_Z p l e R s m args below meth c D nL sl0 Q (tgt) ls st S C)) (k2 : (∀ ls st C, K2 ls st S C → ax_Z p l e R s m args below meth c D nL sl0 Q (pc + 1 + 3) ls st S C)) : (∀ ls st C, ax_lcgt K1 K2 ls st S C → ax_Z p l e R s m args below meth c D nL sl0 Q (pc) ls st S C) := fun ls st C hK H lsA locs cells slots h => by
  obtain ⟨y, st, rfl, hK1⟩ := ax_pl_e hK
  obtain ⟨x, st, rfl, hK2⟩ := ax_pl_e hK1
  exact W.lcmp X.1 X.2.1 hd0 (lv_if_gt X.1 X.2.1 hd ht (fun q => k1 _ _ _ (hK2.1 ((ax_lcmp0 x y).2.2.2.1.mp q)) _ _ _ _ _ h) (fun q => k2 _ _ _ (hK2.2 (fun z => q ((ax_lcmp0 x y).2.2.2.1.mpr z))) _ _ _ _ _ h))
def ax_lcle (K1 K2 : ax_K) : ax_K := fun ls st S C => ax_pl st fun y t => ax_pl t fun x t => (x ≤ y → K1 ls t S C) ∧ (¬ x ≤ y → K2 ls t S C)
theorem sx_lcle (X : ax_X D p s m args meth c own cc nL) {off : Int} {tgt : Nat} (hd0 : decode cc pc = .ok (.lcmp, 1)) (hd : decode cc (pc + 1) = .ok (.ifCond .le off, 3)) (ht : ((pc + 1 : Nat) : Int) + off = (tgt : Int)) (k1 : (∀ ls st C, K1 ls st S C → ax_Z p l e R s m args below meth c D nL sl0 Q (tgt) ls st S C)) (k2 : (∀ ls st C, K2 ls st S C → ax_Z p l e R s m args below meth c D nL sl0 Q (pc + 1 + 3) ls st S C)) : (∀ ls st C, ax_lcle K1 K2 ls st S C → ax_Z p l e R s m args below meth c D nL sl0 Q (pc) ls st S C) := fun ls st C hK H lsA locs cells slots h => by
  obtain ⟨y, st, rfl, hK1⟩ := ax_pl_e hK
  obtain ⟨x, st, rfl, hK2⟩ := ax_pl_e hK1
  exact W.lcmp X.1 X.2.1 hd0 (lv_if_le X.1 X.2.1 hd ht (fun q => k1 _ _ _ (hK2.1 ((ax_lcmp0 x y).2.2.2.2.mp q)) _ _ _ _ _ h) (fun q => k2 _ _ _ (hK2.2 (fun z => q ((ax_lcmp0 x y).2.2.2.2.mpr z))) _ _ _ _ _ h))
end AXR
end
section
/-! ===== the heap's steps ===== -/
def ax_wI (C : ax_C) (a k : Nat) (x : Int32) : ax_C := (va_up C.1 a (va_up (C.1 a) k x), C.2)
def ax_wL (C : ax_C) (a k : Nat) (x : Int64) : ax_C := (C.1, va_up C.2.1 a (va_up (C.2.1 a) k x), C.2.2)
def ax_wR (C : ax_C) (a k : Nat) (x : Option Nat) : ax_C := (C.1, C.2.1, va_up C.2.2 a (va_up (C.2.2 a) k x))
/-- a whole row of ints -/
def ax_rI (C : ax_C) (a : Nat) (f : Nat → Int32) : ax_C := (va_up C.1 a f, C.2)
/-- a class's words, by its number in vwCl -/
def ax_CF (ci : Nat) (N : String) (T : u_T) : Prop := vwCl[ci]? = some (N, T, ax_n ci) ∧ (∀ w ∈ u_ws N T (ax_n ci), w ∈ ax_big) ∧ (∀ k, k < ax_n ci → parseFieldDescriptor (T k).2.2.1 = some (ax_ty ci k)) ∧ (∀ a, a < ax_n ci → ∀ b, b < ax_n ci → a ≠ b → (T a).2.1 ≠ (T b).2.1) ∧ ci < 9
def ax_FL (own ref : String) (idx : Nat) (n d : String) : Prop := Cond.fieldLink own idx ref n d ∈ ax_big ∨ Cond.fieldLinkNest own idx ref n d "PathEditor" ∈ ax_nw
theorem ax_f_obj {D : ax_D} {S : ax_S} {C : ax_C} {a ci : Nat} (h : S.1 a = ci + 1) (hc : ci < 9) : ax_f D S C a = .inr (ci, ax_fl ci C a) := by
  unfold ax_f
  rw [if_pos (by omega), h]
  rfl
theorem ax_f_arr {D : ax_D} {S : ax_S} {C : ax_C} {a t : Nat} (h : S.1 a = t + 11) (ht : t < 3) : ax_f D S C a = .inl (D.2.2.1 t, S.2.1 a, .inl (C.1 a)) := by
  unfold ax_f
  rw [if_neg (by omega), if_pos (by omega), h]
  rfl
theorem ax_f_arq {D : ax_D} {S : ax_S} {C : ax_C} {a t : Nat} (h : S.1 a = t + 11) (ht : 3 ≤ t) : ax_f D S C a = .inl (D.2.2.1 t, S.2.1 a, .inr (.inr (.inr (.inr (C.2.2 a))))) := by
  unfold ax_f
  rw [if_neg (by omega), if_neg (by omega), h]
  rfl
theorem ax_fl_get {ci k : Nat} {C : ax_C} {a : Nat} (hk : k < ax_n ci) : (ax_fl ci C a)[k]? = some (ax_v ci C a k) := by
  simp [ax_fl, List.getElem?_range hk]
theorem ax_fl_set {ci k : Nat} {C C' : ax_C} {a : Nat} {v : Value} (hC : ∀ j, j < ax_n ci → ax_v ci C' a j = if j = k then v else ax_v ci C a j) : (ax_fl ci C a).set k v = ax_fl ci C' a := by
  apply List.ext_getElem?
  intro j
  by_cases hj : j < ax_n ci
  · rw [ax_fl_get hj, hC j hj, List.getElem?_set]
    by_cases hk : k = j
    · subst hk
      simp [ax_fl, hj]
    · rw [if_neg hk, if_neg (fun q => hk q.symm), ax_fl_get hj]
  · rw [List.getElem?_eq_none (by simp [ax_fl]; omega), List.getElem?_eq_none (by simp [ax_fl]; omega)]
theorem ax_tys_at {D : ax_D} {t : Nat} (h : t < 5) : (ax_tys D)[t]? = some (D.2.2.1 t, ax_aty t) := by
  simp [ax_tys, List.getElem?_range h]
/-- one cell changes -/
theorem ax_R_set {D : ax_D} {S : ax_S} {C C' : ax_C} {H H' : Heap} {a : Nat} (h : ax_R D S C H) (ha : S.1 a ≠ 0) (he : va_at (D.1, D.2.1) vwCl (a, ax_f D S C' a) H') (z : H'.size = H.size) (oq : ∀ q : Nat, q ≠ a → H'[q]? = H[q]?) (hC : ∀ b, b ≠ a → ax_f D S C' b = ax_f D S C b) : ax_R D S C' H' := by
  obtain ⟨k, hk⟩ := ax_at h ha
  obtain ⟨g1, g2⟩ := h.2.2.2 a ha
  refine ⟨z.trans h.1, h.2.1, ?_, h.2.2.2⟩
  have h1 := h.2.2.1.set (ax_apart D S C) hk he oq
  rw [ax_set g1 g2 hk, va_pl_congr (g := ax_f D S C')] at h1
  · exact h1
  · intro b
    by_cases hb : b = a
    · subst hb; rw [va_up_self]
    · rw [va_up_ne _ _ hb, hC b hb]
theorem ax_f_other {D : ax_D} {S : ax_S} {C C' : ax_C} {b : Nat} (h1 : C'.1 b = C.1 b) (h2 : C'.2.1 b = C.2.1 b) (h3 : C'.2.2 b = C.2.2 b) : ax_f D S C' b = ax_f D S C b := by
  have hv : ∀ ci k, ax_v ci C' b k = ax_v ci C b k := fun ci k => by simp only [ax_v, h1, h2, h3]
  have hl : ∀ ci, ax_fl ci C' b = ax_fl ci C b := fun ci => by
    unfold ax_fl
    rw [show ax_v ci C' b = ax_v ci C b from funext (hv ci)]
  simp only [ax_f, hl, h1, h3]
section AXH
variable {p : Program} {l : Launch} {e : Env} {R : Room} {s : State} {m : MethodId} {args : Array Value} {below : List Frame} {meth : Method} {c : Code} {D : ax_D} {nL sl0 : Nat} {Q : State → Prop} {own : String} {cc : ByteArray} {pc : Nat} {S : ax_S} {K K1 K2 : ax_K}
theorem ax_H.put {ls : ax_L} {S : ax_S} {C C' : ax_C} {H H' : Heap} {lsA : Array Slot} {locs : List Loc} {cells slots a k : Nat} (h : ax_H D s R nL sl0 ls S C H lsA locs cells slots) (ha : S.1 a ≠ 0) (he : va_at (D.1, D.2.1) vwCl (a, ax_f D S C' a) H') (z : H'.size = H.size) (oq : ∀ q : Nat, q ≠ a → H'[q]? = H[q]?) (hC : ∀ b, b ≠ a → ax_f D S C' b = ax_f D S C b) : ax_H D s R nL sl0 ls S C' H' lsA (locs ++ [⟨a, k⟩]) cells slots :=
  ⟨ax_R_set h.1 ha he z oq hC, h.2.1, h.2.2.1.put z oq (h.1.2.2.2 a ha).1, h.2.2.2⟩
theorem ax_getW (X : ax_X D p s m args meth c own cc nL) {ci k idx a : Nat} {N : String} {T : u_T} (hF : ax_CF ci N T) (hk : k < ax_n ci) (hl : ax_FL own (T k).1 idx (T k).2.1 (T k).2.2.1) (hd : decode cc pc = .ok (.getfield idx, 3)) {ls : ax_L} {S : ax_S} {C : ax_C} {H : Heap} {lsA : Array Slot} {locs : List Loc} {cells slots : Nat} {rest : List Value} (h : ax_H D s R nL sl0 ls S C H lsA locs cells slots) (ha : S.1 a = ci + 1) (kk : W p l e R s m args below meth c H locs cells slots Q (F0 m (pc + 3) lsA (ax_v ci C a k :: rest))) : W p l e R s m args below meth c H locs cells slots Q (F0 m pc lsA (.ref a :: rest)) := by
  obtain ⟨hc, hin, hty, hnm, h9⟩ := hF
  obtain ⟨k0, hk0⟩ := ax_at h.1 (by omega : S.1 a ≠ 0)
  rw [ax_f_obj ha h9] at hk0
  rcases hl with hl | hl
  · exact va_get X.1 X.2.1 X.2.2.2.2.1 hin X.2.2.2.1 X.2.2.2.2.2.2.1.1 h.1.2.2.1 k0 hk0 hc k hk (X.2.2.2.2.1 _ hl) (fun _ q => q) (ax_fl_get hk) hd kk
  · exact va_getN X.1 X.2.1 X.2.2.2.2.1 hin X.2.2.2.1 X.2.2.2.2.2.2.1.1 h.1.2.2.1 k0 hk0 hc k hk (va_Nw.use rfl (X.2.2.2.2.2.2.1.2.1 _ hl)) (fun _ q => q) (ax_fl_get hk) hd kk
theorem ax_putW (X : ax_X D p s m args meth c own cc nL) {ci k idx a : Nat} {N : String} {T : u_T} {v : Value} (hF : ax_CF ci N T) (hk : k < ax_n ci) (hl : ax_FL own (T k).1 idx (T k).2.1 (T k).2.2.1) (hfin : (T k).2.2.2 = false ∨ ((T k).2.2.2 = true ∧ meth.name = "<init>" ∧ (T k).1 = own ∧ Cond.fieldLink own idx (T k).1 (T k).2.1 (T k).2.2.1 ∈ ax_big)) (hd : decode cc pc = .ok (.putfield idx, 3)) (hn : narrow (ax_ty ci k) v = v) (hfit : fits (ax_ty ci k) v = true) {ls : ax_L} {S : ax_S} {C C' : ax_C} {H : Heap} {lsA : Array Slot} {locs : List Loc} {cells slots : Nat} {rest : List Value} (h : ax_H D s R nL sl0 ls S C H lsA locs cells slots) (ha : S.1 a = ci + 1) (hC1 : ∀ j, j < ax_n ci → ax_v ci C' a j = if j = k then v else ax_v ci C a j) (hC2 : ∀ b, b ≠ a → ax_f D S C' b = ax_f D S C b) (kk : ∀ H' locs', ax_H D s R nL sl0 ls S C' H' lsA locs' cells slots → W p l e R s m args below meth c H' locs' cells slots Q (F0 m (pc + 3) lsA rest)) : W p l e R s m args below meth c H locs cells slots Q (F0 m pc lsA (v :: .ref a :: rest)) := by
  obtain ⟨hc, hin, hty, hnm, h9⟩ := hF
  obtain ⟨k0, hk0⟩ := ax_at h.1 (by omega : S.1 a ≠ 0)
  rw [ax_f_obj ha h9] at hk0
  have hts := X.2.2.2.2.1
  have hK := X.2.2.2.2.2.2.1.1
  have hap := va_apart (own := own) hts hin (ax_ty ci) hty hnm hK hc
  obtain ⟨r, h1, cell, q1, q2, q3, q4⟩ := h.1.2.2.1 k0 _ hk0
  have hr : r = (N, T, ax_n ci) := Option.some.inj (h1.symm.trans hc)
  subst hr
  obtain ⟨hS, hfc, kC, hkC, hkind⟩ := hK.1 ci _ hc
  obtain ⟨cf, kf, fi, f, hi, hsl⟩ := hS k hk
  have hlay := u_lays hts hin hk
  have hst := (u_facts hfc hkC hlay hi).1
  have hlt : f.slot < cell.slots.size := by rw [hsl]; exact k2_hasslot (q4 k hk)
  have hlen : k < (ax_fl ci C a).length := by simp [ax_fl, hk]
  have fin : ∀ H' : Heap, H'[a]? = some (cell.setSlot f.slot v) → H'.size = H.size → (∀ q, q ≠ a → H'[q]? = H[q]?) → W p l e R s m args below meth c H' (locs ++ [⟨a, f.slot⟩]) cells slots Q (F0 m (pc + 3) lsA rest) := by
    intro H' e1 e2 e3
    refine kk H' _ (h.put (by omega) ?_ e2 e3 hC2)
    rw [ax_f_obj ha h9, ← ax_fl_set hC1]
    rw [hsl] at e1
    exact ⟨_, hc, t_OB.to (V := updV (vp_V (ax_fl ci C a)) k v) ⟨_, e1, q2, q3, t_set q4 hap hk v⟩ (fun j _ => vp_updV_set hlen v j)⟩
  rcases hfin with hfin | ⟨hfin, hinit, hdecl, hl⟩
  · have hlay2 := hts _ (hin _ (u_in_lay hk))
    unfold u_lay at hlay2
    rw [if_neg (by rw [hfin]; decide)] at hlay2
    have h6 := u_store hfc hkC hkind hlay2 hi (hty k hk) hn hfit
    rcases hl with hl | hl
    · exact W.putK X.1 X.2.1 (f := f) ⟨X.2.2.2.1, hts _ hl, ⟨_, _, _, hi⟩, hst⟩ (by rw [q2]; exact h6) q1 q3 hlt rfl rfl hd fin
    · exact va_WputK X.1 X.2.1 (f := f) X.2.2.2.1 (va_Nw.use rfl (X.2.2.2.2.2.2.1.2.1 _ hl)) hi hst (by rw [q2]; exact h6) q1 q3 hlt rfl rfl hd fin
  · have hlay2 := hts _ (hin _ (u_in_lay hk))
    unfold u_lay at hlay2
    rw [if_pos hfin] at hlay2
    have hcf : m.cls = cf := by
      obtain ⟨_, _, c', _, _, _, -, -, hf', -, -, -, hown2, -⟩ := Cond.laysFinal_spec hlay2
      have e1 : c' = cf := by have := hi.symm.trans hf'; simp at this; exact this.1.symm
      rw [hdecl] at hown2
      rw [← e1]; exact Option.some.inj (X.2.2.2.1.symm.trans hown2)
    have h6 := u_fits hfc hkC hkind hlay hi (hty k hk) hn hfit
    exact W.putFinK X.1 X.2.1 X.2.2.2.1 (hts _ hl) hi hst hcf hinit (by rw [q2]; exact h6) q1 q3 hlt rfl rfl hd fin
def ax_getI (kc k : Nat) (K : ax_K) : ax_K := fun ls st S C => ax_pr st fun o t => ax_sm o fun a => S.1 a = kc ∧ K ls (ax_i (C.1 a k) :: t) S C
theorem sx_getI (X : ax_X D p s m args meth c own cc nL) {ci k idx kc : Nat} {N : String} {T : u_T} (hF : ax_CF ci N T) (hk : k < ax_n ci) (hl : ax_FL own (T k).1 idx (T k).2.1 (T k).2.2.1) (hkc : kc = ci + 1) (ht : ax_fk (ax_ty ci k) = 0) (hd : decode cc pc = .ok (.getfield idx, 3)) (k2 : (∀ ls st C, K ls st S C → ax_Z p l e R s m args below meth c D nL sl0 Q (pc + 3) ls st S C)) : (∀ ls st C, ax_getI kc k K ls st S C → ax_Z p l e R s m args below meth c D nL sl0 Q (pc) ls st S C) := fun ls st C hK H lsA locs cells slots h => by
  subst hkc
  obtain ⟨o, st, rfl, hK1⟩ := ax_pr_e hK
  obtain ⟨a, rfl, ha, hK2⟩ := ax_sm_e hK1
  have k3 := k2 _ _ _ hK2 _ _ _ _ _ h
  have e1 : ax_v ci C a k = ax_cv (ax_i (C.1 a k)) := by simp [ax_v, ht, ax_cv]
  refine ax_getW X hF hk hl hd h ha ?_
  rw [e1]
  exact k3
def ax_getL (kc k : Nat) (K : ax_K) : ax_K := fun ls st S C => ax_pr st fun o t => ax_sm o fun a => S.1 a = kc ∧ K ls (ax_l (C.2.1 a k) :: t) S C
theorem sx_getL (X : ax_X D p s m args meth c own cc nL) {ci k idx kc : Nat} {N : String} {T : u_T} (hF : ax_CF ci N T) (hk : k < ax_n ci) (hl : ax_FL own (T k).1 idx (T k).2.1 (T k).2.2.1) (hkc : kc = ci + 1) (ht : ax_fk (ax_ty ci k) = 1) (hd : decode cc pc = .ok (.getfield idx, 3)) (k2 : (∀ ls st C, K ls st S C → ax_Z p l e R s m args below meth c D nL sl0 Q (pc + 3) ls st S C)) : (∀ ls st C, ax_getL kc k K ls st S C → ax_Z p l e R s m args below meth c D nL sl0 Q (pc) ls st S C) := fun ls st C hK H lsA locs cells slots h => by
  subst hkc
  obtain ⟨o, st, rfl, hK1⟩ := ax_pr_e hK
  obtain ⟨a, rfl, ha, hK2⟩ := ax_sm_e hK1
  have k3 := k2 _ _ _ hK2 _ _ _ _ _ h
  have e1 : ax_v ci C a k = ax_cv (ax_l (C.2.1 a k)) := by simp [ax_v, ht, ax_cv]
  refine ax_getW X hF hk hl hd h ha ?_
  rw [e1]
  exact k3
def ax_getR (kc k : Nat) (K : ax_K) : ax_K := fun ls st S C => ax_pr st fun o t => ax_sm o fun a => S.1 a = kc ∧ K ls (ax_r (C.2.2 a k) :: t) S C
theorem sx_getR (X : ax_X D p s m args meth c own cc nL) {ci k idx kc : Nat} {N : String} {T : u_T} (hF : ax_CF ci N T) (hk : k < ax_n ci) (hl : ax_FL own (T k).1 idx (T k).2.1 (T k).2.2.1) (hkc : kc = ci + 1) (ht : ax_fk (ax_ty ci k) = 2) (hd : decode cc pc = .ok (.getfield idx, 3)) (k2 : (∀ ls st C, K ls st S C → ax_Z p l e R s m args below meth c D nL sl0 Q (pc + 3) ls st S C)) : (∀ ls st C, ax_getR kc k K ls st S C → ax_Z p l e R s m args below meth c D nL sl0 Q (pc) ls st S C) := fun ls st C hK H lsA locs cells slots h => by
  subst hkc
  obtain ⟨o, st, rfl, hK1⟩ := ax_pr_e hK
  obtain ⟨a, rfl, ha, hK2⟩ := ax_sm_e hK1
  have k3 := k2 _ _ _ hK2 _ _ _ _ _ h
  have e1 : ax_v ci C a k = ax_cv (ax_r (C.2.2 a k)) := by simp [ax_v, ht, ax_cv]
  refine ax_getW X hF hk hl hd h ha ?_
  rw [e1]
  exact k3
def ax_putI (kc k : Nat) (K : ax_K) : ax_K := fun ls st S C => ax_pi st fun x t => ax_pr t fun o t => ax_sm o fun a => S.1 a = kc ∧ K ls t S (ax_wI C a k x)
theorem sx_putI (X : ax_X D p s m args meth c own cc nL) {ci k idx kc : Nat} {N : String} {T : u_T} (hF : ax_CF ci N T) (hk : k < ax_n ci) (hl : ax_FL own (T k).1 idx (T k).2.1 (T k).2.2.1) (hkc : kc = ci + 1) (hfin : (T k).2.2.2 = false ∨ ((T k).2.2.2 = true ∧ meth.name = "<init>" ∧ (T k).1 = own ∧ Cond.fieldLink own idx (T k).1 (T k).2.1 (T k).2.2.1 ∈ ax_big)) (hty : ax_ty ci k = .int) (hd : decode cc pc = .ok (.putfield idx, 3)) (k2 : (∀ ls st C, K ls st S C → ax_Z p l e R s m args below meth c D nL sl0 Q (pc + 3) ls st S C)) : (∀ ls st C, ax_putI kc k K ls st S C → ax_Z p l e R s m args below meth c D nL sl0 Q (pc) ls st S C) := fun ls st C hK H lsA locs cells slots h => by
  subst hkc
  obtain ⟨x, st, rfl, hK1⟩ := ax_pi_e hK
  obtain ⟨o, st, rfl, hK2⟩ := ax_pr_e hK1
  obtain ⟨a, rfl, ha, hK3⟩ := ax_sm_e hK2
  refine ax_putW (v := ax_cv (ax_i x)) (C' := ax_wI C a k x) X hF hk hl hfin hd (by rw [hty]; rfl) (by rw [hty]; rfl) h ha (fun j _ => ?_) (fun b hb => ?_) (fun H' locs' h' => k2 _ _ _ hK3 _ _ _ _ _ h')
  · by_cases hj : j = k
    · subst hj
      simp [ax_v, hty, ax_cv, ax_wI, ax_wL, ax_wR, va_up, ax_fk]
    · rw [if_neg hj]
      simp [ax_v, ax_wI, ax_wL, ax_wR, va_up, hj]
  · exact ax_f_other (by simp [ax_wI, ax_wL, ax_wR, va_up, hb]) (by simp [ax_wI, ax_wL, ax_wR, va_up, hb]) (by simp [ax_wI, ax_wL, ax_wR, va_up, hb])
def ax_putZ (kc k : Nat) (K : ax_K) : ax_K := fun ls st S C => ax_pi st fun x t => ax_pr t fun o t => ax_sm o fun a => (x = 0 ∨ x = 1) ∧ S.1 a = kc ∧ K ls t S (ax_wI C a k x)
theorem sx_putZ (X : ax_X D p s m args meth c own cc nL) {ci k idx kc : Nat} {N : String} {T : u_T} (hF : ax_CF ci N T) (hk : k < ax_n ci) (hl : ax_FL own (T k).1 idx (T k).2.1 (T k).2.2.1) (hkc : kc = ci + 1) (hfin : (T k).2.2.2 = false ∨ ((T k).2.2.2 = true ∧ meth.name = "<init>" ∧ (T k).1 = own ∧ Cond.fieldLink own idx (T k).1 (T k).2.1 (T k).2.2.1 ∈ ax_big)) (hty : ax_ty ci k = .boolean) (hd : decode cc pc = .ok (.putfield idx, 3)) (k2 : (∀ ls st C, K ls st S C → ax_Z p l e R s m args below meth c D nL sl0 Q (pc + 3) ls st S C)) : (∀ ls st C, ax_putZ kc k K ls st S C → ax_Z p l e R s m args below meth c D nL sl0 Q (pc) ls st S C) := fun ls st C hK H lsA locs cells slots h => by
  subst hkc
  obtain ⟨x, st, rfl, hK1⟩ := ax_pi_e hK
  obtain ⟨o, st, rfl, hK2⟩ := ax_pr_e hK1
  obtain ⟨a, rfl, hz, ha, hK3⟩ := ax_sm_e hK2
  refine ax_putW (v := ax_cv (ax_i x)) (C' := ax_wI C a k x) X hF hk hl hfin hd (by rw [hty]; rcases hz with rfl | rfl <;> rfl) (by rw [hty]; rcases hz with rfl | rfl <;> rfl) h ha (fun j _ => ?_) (fun b hb => ?_) (fun H' locs' h' => k2 _ _ _ hK3 _ _ _ _ _ h')
  · by_cases hj : j = k
    · subst hj
      simp [ax_v, hty, ax_cv, ax_wI, ax_wL, ax_wR, va_up, ax_fk]
    · rw [if_neg hj]
      simp [ax_v, ax_wI, ax_wL, ax_wR, va_up, hj]
  · exact ax_f_other (by simp [ax_wI, ax_wL, ax_wR, va_up, hb]) (by simp [ax_wI, ax_wL, ax_wR, va_up, hb]) (by simp [ax_wI, ax_wL, ax_wR, va_up, hb])
def ax_putL (kc k : Nat) (K : ax_K) : ax_K := fun ls st S C => ax_pl st fun x t => ax_pr t fun o t => ax_sm o fun a => S.1 a = kc ∧ K ls t S (ax_wL C a k x)
theorem sx_putL (X : ax_X D p s m args meth c own cc nL) {ci k idx kc : Nat} {N : String} {T : u_T} (hF : ax_CF ci N T) (hk : k < ax_n ci) (hl : ax_FL own (T k).1 idx (T k).2.1 (T k).2.2.1) (hkc : kc = ci + 1) (hfin : (T k).2.2.2 = false ∨ ((T k).2.2.2 = true ∧ meth.name = "<init>" ∧ (T k).1 = own ∧ Cond.fieldLink own idx (T k).1 (T k).2.1 (T k).2.2.1 ∈ ax_big)) (hty : ax_ty ci k = .long) (hd : decode cc pc = .ok (.putfield idx, 3)) (k2 : (∀ ls st C, K ls st S C → ax_Z p l e R s m args below meth c D nL sl0 Q (pc + 3) ls st S C)) : (∀ ls st C, ax_putL kc k K ls st S C → ax_Z p l e R s m args below meth c D nL sl0 Q (pc) ls st S C) := fun ls st C hK H lsA locs cells slots h => by
  subst hkc
  obtain ⟨x, st, rfl, hK1⟩ := ax_pl_e hK
  obtain ⟨o, st, rfl, hK2⟩ := ax_pr_e hK1
  obtain ⟨a, rfl, ha, hK3⟩ := ax_sm_e hK2
  refine ax_putW (v := ax_cv (ax_l x)) (C' := ax_wL C a k x) X hF hk hl hfin hd (by rw [hty]; rfl) (by rw [hty]; rfl) h ha (fun j _ => ?_) (fun b hb => ?_) (fun H' locs' h' => k2 _ _ _ hK3 _ _ _ _ _ h')
  · by_cases hj : j = k
    · subst hj
      simp [ax_v, hty, ax_cv, ax_wI, ax_wL, ax_wR, va_up, ax_fk]
    · rw [if_neg hj]
      simp [ax_v, ax_wI, ax_wL, ax_wR, va_up, hj]
  · exact ax_f_other (by simp [ax_wI, ax_wL, ax_wR, va_up, hb]) (by simp [ax_wI, ax_wL, ax_wR, va_up, hb]) (by simp [ax_wI, ax_wL, ax_wR, va_up, hb])
def ax_putR (kc k : Nat) (K : ax_K) : ax_K := fun ls st S C => ax_pr st fun x t => ax_pr t fun o t => ax_sm o fun a => S.1 a = kc ∧ K ls t S (ax_wR C a k x)
theorem sx_putR (X : ax_X D p s m args meth c own cc nL) {ci k idx kc : Nat} {N : String} {T : u_T} (hF : ax_CF ci N T) (hk : k < ax_n ci) (hl : ax_FL own (T k).1 idx (T k).2.1 (T k).2.2.1) (hkc : kc = ci + 1) (hfin : (T k).2.2.2 = false ∨ ((T k).2.2.2 = true ∧ meth.name = "<init>" ∧ (T k).1 = own ∧ Cond.fieldLink own idx (T k).1 (T k).2.1 (T k).2.2.1 ∈ ax_big)) (hty : ax_fk (ax_ty ci k) = 2) (hd : decode cc pc = .ok (.putfield idx, 3)) (k2 : (∀ ls st C, K ls st S C → ax_Z p l e R s m args below meth c D nL sl0 Q (pc + 3) ls st S C)) : (∀ ls st C, ax_putR kc k K ls st S C → ax_Z p l e R s m args below meth c D nL sl0 Q (pc) ls st S C) := fun ls st C hK H lsA locs cells slots h => by
  subst hkc
  obtain ⟨x, st, rfl, hK1⟩ := ax_pr_e hK
  obtain ⟨o, st, rfl, hK2⟩ := ax_pr_e hK1
  obtain ⟨a, rfl, ha, hK3⟩ := ax_sm_e hK2
  have hq : narrow (ax_ty ci k) (ax_cv (ax_r x)) = ax_cv (ax_r x) ∧ fits (ax_ty ci k) (ax_cv (ax_r x)) = true := by
    revert hty
    cases ax_ty ci k <;> cases x <;> simp [ax_fk, ax_cv, va_rf, narrow, fits]
  refine ax_putW (v := ax_cv (ax_r x)) (C' := ax_wR C a k x) X hF hk hl hfin hd hq.1 hq.2 h ha (fun j _ => ?_) (fun b hb => ?_) (fun H' locs' h' => k2 _ _ _ hK3 _ _ _ _ _ h')
  · by_cases hj : j = k
    · subst hj
      simp [ax_v, hty, ax_cv, ax_wI, ax_wL, ax_wR, va_up]
    · rw [if_neg hj]
      simp [ax_v, ax_wI, ax_wL, ax_wR, va_up, hj]
  · exact ax_f_other (by simp [ax_wI, ax_wL, ax_wR, va_up, hb]) (by simp [ax_wI, ax_wL, ax_wR, va_up, hb]) (by simp [ax_wI, ax_wL, ax_wR, va_up, hb])
def ax_iald (K : ax_K) : ax_K := fun ls st S C => ax_pi st fun i t => ax_pr t fun o t => ax_sm o fun a => S.1 a = 11 ∧ vp_in i (S.2.1 a) ∧ K ls (ax_i (C.1 a i.toNatClampNeg) :: t) S C
theorem sx_iald (X : ax_X D p s m args meth c own cc nL) (hd : decode cc pc = .ok (.iaload, 1)) (k2 : (∀ ls st C, K ls st S C → ax_Z p l e R s m args below meth c D nL sl0 Q (pc + 1) ls st S C)) : (∀ ls st C, ax_iald K ls st S C → ax_Z p l e R s m args below meth c D nL sl0 Q (pc) ls st S C) := fun ls st C hK H lsA locs cells slots h => by
  obtain ⟨i, st, rfl, hK1⟩ := ax_pi_e hK
  obtain ⟨o, st, rfl, hK2⟩ := ax_pr_e hK1
  obtain ⟨a, rfl, ha, hi, hK3⟩ := ax_sm_e hK2
  obtain ⟨k0, hk0⟩ := ax_at h.1 (by omega : S.1 a ≠ 0)
  rw [ax_f_arr (t := 0) ha (by omega)] at hk0
  exact va_iald X.1 X.2.1 X.2.2.2.2.2.2.1.1 h.1.2.2.1 k0 0 hk0 (ax_tys_at (by omega)) hi hd (k2 _ _ _ hK3 _ _ _ _ _ h)
def ax_zald (K : ax_K) : ax_K := fun ls st S C => ax_pi st fun i t => ax_pr t fun o t => ax_sm o fun a => S.1 a = 12 ∧ vp_in i (S.2.1 a) ∧ K ls (ax_i (C.1 a i.toNatClampNeg) :: t) S C
theorem sx_zald (X : ax_X D p s m args meth c own cc nL) (hd : decode cc pc = .ok (.baload, 1)) (k2 : (∀ ls st C, K ls st S C → ax_Z p l e R s m args below meth c D nL sl0 Q (pc + 1) ls st S C)) : (∀ ls st C, ax_zald K ls st S C → ax_Z p l e R s m args below meth c D nL sl0 Q (pc) ls st S C) := fun ls st C hK H lsA locs cells slots h => by
  obtain ⟨i, st, rfl, hK1⟩ := ax_pi_e hK
  obtain ⟨o, st, rfl, hK2⟩ := ax_pr_e hK1
  obtain ⟨a, rfl, ha, hi, hK3⟩ := ax_sm_e hK2
  obtain ⟨k0, hk0⟩ := ax_at h.1 (by omega : S.1 a ≠ 0)
  rw [ax_f_arr (t := 1) ha (by omega)] at hk0
  exact va_zald X.1 X.2.1 X.2.2.2.2.2.2.1.1 h.1.2.2.1 k0 1 hk0 (ax_tys_at (by omega)) hi hd (k2 _ _ _ hK3 _ _ _ _ _ h)
def ax_bald (K : ax_K) : ax_K := fun ls st S C => ax_pi st fun i t => ax_pr t fun o t => ax_sm o fun a => S.1 a = 13 ∧ vp_in i (S.2.1 a) ∧ K ls (ax_i (C.1 a i.toNatClampNeg) :: t) S C
theorem sx_bald (X : ax_X D p s m args meth c own cc nL) (hd : decode cc pc = .ok (.baload, 1)) (k2 : (∀ ls st C, K ls st S C → ax_Z p l e R s m args below meth c D nL sl0 Q (pc + 1) ls st S C)) : (∀ ls st C, ax_bald K ls st S C → ax_Z p l e R s m args below meth c D nL sl0 Q (pc) ls st S C) := fun ls st C hK H lsA locs cells slots h => by
  obtain ⟨i, st, rfl, hK1⟩ := ax_pi_e hK
  obtain ⟨o, st, rfl, hK2⟩ := ax_pr_e hK1
  obtain ⟨a, rfl, ha, hi, hK3⟩ := ax_sm_e hK2
  obtain ⟨k0, hk0⟩ := ax_at h.1 (by omega : S.1 a ≠ 0)
  rw [ax_f_arr (t := 2) ha (by omega)] at hk0
  exact va_bald X.1 X.2.1 X.2.2.2.2.2.2.1.1 h.1.2.2.1 k0 2 hk0 (ax_tys_at (by omega)) hi hd (k2 _ _ _ hK3 _ _ _ _ _ h)
def ax_aald (kd : Nat) (K : ax_K) : ax_K := fun ls st S C => ax_pi st fun i t => ax_pr t fun o t => ax_sm o fun a => S.1 a = kd ∧ vp_in i (S.2.1 a) ∧ K ls (ax_r (C.2.2 a i.toNatClampNeg) :: t) S C
theorem sx_aald (X : ax_X D p s m args meth c own cc nL) {kd : Nat} (hkd : kd = 14 ∨ kd = 15) (hd : decode cc pc = .ok (.aaload, 1)) (k2 : (∀ ls st C, K ls st S C → ax_Z p l e R s m args below meth c D nL sl0 Q (pc + 1) ls st S C)) : (∀ ls st C, ax_aald kd K ls st S C → ax_Z p l e R s m args below meth c D nL sl0 Q (pc) ls st S C) := fun ls st C hK H lsA locs cells slots h => by
  obtain ⟨i, st, rfl, hK1⟩ := ax_pi_e hK
  obtain ⟨o, st, rfl, hK2⟩ := ax_pr_e hK1
  obtain ⟨a, rfl, ha, hi, hK3⟩ := ax_sm_e hK2
  obtain ⟨k0, hk0⟩ := ax_at h.1 (by omega : S.1 a ≠ 0)
  rcases hkd with rfl | rfl
  · rw [ax_f_arq (t := 3) ha (by omega)] at hk0
    exact va_aldq (C := "PathEditor$Path") X.1 X.2.1 X.2.2.2.2.2.2.1.1 h.1.2.2.1 k0 3 hk0 (ax_tys_at (by omega)) hi hd (k2 _ _ _ hK3 _ _ _ _ _ h)
  · rw [ax_f_arq (t := 4) ha (by omega)] at hk0
    exact va_aldq (C := "PathEditor$Picture") X.1 X.2.1 X.2.2.2.2.2.2.1.1 h.1.2.2.1 k0 4 hk0 (ax_tys_at (by omega)) hi hd (k2 _ _ _ hK3 _ _ _ _ _ h)
def ax_alen (kd : Nat) (K : ax_K) : ax_K := fun ls st S C => ax_pr st fun o t => ax_sm o fun a => S.1 a = kd ∧ K ls (ax_i (Int32.ofNat (S.2.1 a)) :: t) S C
def ax_iast (K : ax_K) : ax_K := fun ls st S C => ax_pi st fun x t => ax_pi t fun i t => ax_pr t fun o t => ax_sm o fun a => S.1 a = 11 ∧ vp_in i (S.2.1 a) ∧ K ls t S (ax_wI C a i.toNatClampNeg x)
theorem sx_iast (X : ax_X D p s m args meth c own cc nL) (hd : decode cc pc = .ok (.iastore, 1)) (k2 : (∀ ls st C, K ls st S C → ax_Z p l e R s m args below meth c D nL sl0 Q (pc + 1) ls st S C)) : (∀ ls st C, ax_iast K ls st S C → ax_Z p l e R s m args below meth c D nL sl0 Q (pc) ls st S C) := fun ls st C hK H lsA locs cells slots h => by
  obtain ⟨x, st, rfl, hK1⟩ := ax_pi_e hK
  obtain ⟨i, st, rfl, hK2⟩ := ax_pi_e hK1
  obtain ⟨o, st, rfl, hK3⟩ := ax_pr_e hK2
  obtain ⟨a, rfl, ha, hi, hK4⟩ := ax_sm_e hK3
  obtain ⟨k0, hk0⟩ := ax_at h.1 (by omega : S.1 a ≠ 0)
  rw [ax_f_arr (t := 0) ha (by omega)] at hk0
  refine W.iast X.1 X.2.1 (h.1.2.2.1 k0 _ hk0) ((X.2.2.2.2.2.2.1.1.2 0 _ (ax_tys_at (by omega))).1 _ (fun j => .int (C.1 a j))) (fun q => by cases q) (by show ¬ (i < 0 ∨ (arrV _ _ _).slots.size ≤ _); rw [arrV_size]; exact hi) rfl rfl hd fun H1 e1 z oq => ?_
  refine k2 _ _ _ hK4 _ _ _ _ _ (h.put (a := a) (by omega) ?_ z oq (fun b hb => ax_f_other (by simp [ax_wI, va_up, hb]) (by simp [ax_wI]) (by simp [ax_wI])))
  rw [ax_f_arr (t := 0) ha (by omega)]
  show H1[a]? = some (vp_cell _ _)
  rw [e1]
  rw [vp_cell_i, vp_cell_i, arrV_store]
  congr 2
  funext q
  by_cases hq : q = i.toNatClampNeg
  · subst hq
    simp [updV, ax_wI, va_up, vp_nar]
    try rfl
  · simp [updV, ax_wI, va_up, hq]
def ax_zast (K : ax_K) : ax_K := fun ls st S C => ax_pi st fun x t => ax_pi t fun i t => ax_pr t fun o t => ax_sm o fun a => S.1 a = 12 ∧ vp_in i (S.2.1 a) ∧ K ls t S (ax_wI C a i.toNatClampNeg (vp_nar .boolean x))
theorem sx_zast (X : ax_X D p s m args meth c own cc nL) (hd : decode cc pc = .ok (.bastore, 1)) (k2 : (∀ ls st C, K ls st S C → ax_Z p l e R s m args below meth c D nL sl0 Q (pc + 1) ls st S C)) : (∀ ls st C, ax_zast K ls st S C → ax_Z p l e R s m args below meth c D nL sl0 Q (pc) ls st S C) := fun ls st C hK H lsA locs cells slots h => by
  obtain ⟨x, st, rfl, hK1⟩ := ax_pi_e hK
  obtain ⟨i, st, rfl, hK2⟩ := ax_pi_e hK1
  obtain ⟨o, st, rfl, hK3⟩ := ax_pr_e hK2
  obtain ⟨a, rfl, ha, hi, hK4⟩ := ax_sm_e hK3
  obtain ⟨k0, hk0⟩ := ax_at h.1 (by omega : S.1 a ≠ 0)
  rw [ax_f_arr (t := 1) ha (by omega)] at hk0
  refine W.zast X.1 X.2.1 (h.1.2.2.1 k0 _ hk0) ((X.2.2.2.2.2.2.1.1.2 1 _ (ax_tys_at (by omega))).1 _ (fun j => .int (C.1 a j))) (fun q => by cases q) (by show ¬ (i < 0 ∨ (arrV _ _ _).slots.size ≤ _); rw [arrV_size]; exact hi) rfl rfl hd fun H1 e1 z oq => ?_
  refine k2 _ _ _ hK4 _ _ _ _ _ (h.put (a := a) (by omega) ?_ z oq (fun b hb => ax_f_other (by simp [ax_wI, va_up, hb]) (by simp [ax_wI]) (by simp [ax_wI])))
  rw [ax_f_arr (t := 1) ha (by omega)]
  show H1[a]? = some (vp_cell _ _)
  rw [e1]
  rw [vp_cell_i, vp_cell_i, arrV_store]
  congr 2
  funext q
  by_cases hq : q = i.toNatClampNeg
  · subst hq
    simp [updV, ax_wI, va_up, vp_nar]
    try rfl
  · simp [updV, ax_wI, va_up, hq]
def ax_bast (K : ax_K) : ax_K := fun ls st S C => ax_pi st fun x t => ax_pi t fun i t => ax_pr t fun o t => ax_sm o fun a => S.1 a = 13 ∧ vp_in i (S.2.1 a) ∧ K ls t S (ax_wI C a i.toNatClampNeg (vp_nar .byte x))
theorem sx_bast (X : ax_X D p s m args meth c own cc nL) (hd : decode cc pc = .ok (.bastore, 1)) (k2 : (∀ ls st C, K ls st S C → ax_Z p l e R s m args below meth c D nL sl0 Q (pc + 1) ls st S C)) : (∀ ls st C, ax_bast K ls st S C → ax_Z p l e R s m args below meth c D nL sl0 Q (pc) ls st S C) := fun ls st C hK H lsA locs cells slots h => by
  obtain ⟨x, st, rfl, hK1⟩ := ax_pi_e hK
  obtain ⟨i, st, rfl, hK2⟩ := ax_pi_e hK1
  obtain ⟨o, st, rfl, hK3⟩ := ax_pr_e hK2
  obtain ⟨a, rfl, ha, hi, hK4⟩ := ax_sm_e hK3
  obtain ⟨k0, hk0⟩ := ax_at h.1 (by omega : S.1 a ≠ 0)
  rw [ax_f_arr (t := 2) ha (by omega)] at hk0
  refine W.bast X.1 X.2.1 (h.1.2.2.1 k0 _ hk0) ((X.2.2.2.2.2.2.1.1.2 2 _ (ax_tys_at (by omega))).1 _ (fun j => .int (C.1 a j))) (fun q => by cases q) (by show ¬ (i < 0 ∨ (arrV _ _ _).slots.size ≤ _); rw [arrV_size]; exact hi) rfl rfl hd fun H1 e1 z oq => ?_
  refine k2 _ _ _ hK4 _ _ _ _ _ (h.put (a := a) (by omega) ?_ z oq (fun b hb => ax_f_other (by simp [ax_wI, va_up, hb]) (by simp [ax_wI]) (by simp [ax_wI])))
  rw [ax_f_arr (t := 2) ha (by omega)]
  show H1[a]? = some (vp_cell _ _)
  rw [e1]
  rw [vp_cell_i, vp_cell_i, arrV_store]
  congr 2
  funext q
  by_cases hq : q = i.toNatClampNeg
  · subst hq
    simp [updV, ax_wI, va_up, vp_nar]
    try rfl
  · simp [updV, ax_wI, va_up, hq]
def ax_aast (kd kv : Nat) (K : ax_K) : ax_K := fun ls st S C => ax_pr st fun x t => ax_pi t fun i t => ax_pr t fun o t => ax_sm o fun a => ax_sm x fun b => S.1 a = kd ∧ S.1 b = kv ∧ vp_in i (S.2.1 a) ∧ K ls t S (ax_wR C a i.toNatClampNeg (some b))
theorem sx_aast (X : ax_X D p s m args meth c own cc nL) {kd kv ci : Nat} {N : String} {T : u_T} (hF : ax_CF ci N T) (hkv : kv = ci + 1) (hkd : (kd = 14 ∧ N = "PathEditor$Path") ∨ (kd = 15 ∧ N = "PathEditor$Picture")) (hd : decode cc pc = .ok (.aastore, 1)) (k2 : (∀ ls st C, K ls st S C → ax_Z p l e R s m args below meth c D nL sl0 Q (pc + 1) ls st S C)) : (∀ ls st C, ax_aast kd kv K ls st S C → ax_Z p l e R s m args below meth c D nL sl0 Q (pc) ls st S C) := fun ls st C hK H lsA locs cells slots h => by
  subst hkv
  obtain ⟨x, st, rfl, hK1⟩ := ax_pr_e hK
  obtain ⟨i, st, rfl, hK2⟩ := ax_pi_e hK1
  obtain ⟨o, st, rfl, hK3⟩ := ax_pr_e hK2
  obtain ⟨a, rfl, hK4⟩ := ax_sm_e hK3
  obtain ⟨b, rfl, ha, hb, hi, hK5⟩ := ax_sm_e hK4
  obtain ⟨hc, hin, hty, hnm, h9⟩ := hF
  obtain ⟨t, hat, ht3, ht5, hNt⟩ : ∃ t, S.1 a = t + 11 ∧ 3 ≤ t ∧ t < 5 ∧ ax_aty t = .object N := by
    rcases hkd with ⟨q1, q2⟩ | ⟨q1, q2⟩
    · exact ⟨3, by omega, by omega, by omega, by rw [q2]; rfl⟩
    · exact ⟨4, by omega, by omega, by omega, by rw [q2]; rfl⟩
  obtain ⟨k0, hk0⟩ := ax_at h.1 (by omega : S.1 a ≠ 0)
  obtain ⟨kb, hkb⟩ := ax_at h.1 (by omega : S.1 b ≠ 0)
  rw [ax_f_arq hat ht3] at hk0
  rw [ax_f_obj hb h9] at hkb
  have hlt : i.toNatClampNeg < S.2.1 a := Nat.not_le.mp fun q => hi (Or.inr q)
  have h0 : ¬ i < 0 := fun q => hi (Or.inl q)
  obtain ⟨r', hr', cellV, g1, g2, g3, -⟩ := h.1.2.2.1 kb _ hkb
  have hK := X.2.2.2.2.2.2.1.1
  have hcls := (hK.1 ci _ hc).2
  have hty2 := (hK.2 t _ (ax_tys_at ht5)).2
  rw [hNt] at hty2
  obtain ⟨kA, comp, q1, q2, q3, -⟩ := hty2
  have hcomp : comp = D.1 ci := Option.some.inj (q3.symm.trans hcls.1)
  subst hcomp
  obtain ⟨kC, hkC, -⟩ := hcls.2
  refine W.aast X.1 X.2.1 (h.1.2.2.1 k0 _ hk0) (fun q h => by cases h) (fun h => by cases h) q1 q2 rfl hkC ⟨h0, by show _ < (arrV _ _ _).slots.size; rw [arrV_size]; exact hlt⟩ g1 (fun q h => by rw [g3] at h; cases h) (by rw [g2]; exact hkC) (by rw [g2]; exact va_assign hcls) rfl rfl hd fun H1 e1 z oq => ?_
  refine k2 _ _ _ hK5 _ _ _ _ _ (h.put (a := a) (by omega) ?_ z oq (fun d hd => ax_f_other (by simp [ax_wR]) (by simp [ax_wR]) (by simp [ax_wR, va_up, hd])))
  rw [ax_f_arq hat ht3]
  show H1[a]? = some (vp_cell _ _)
  rw [e1]
  rw [vp_cell_q, vp_cell_q, arrV_store]
  congr 2
  funext q
  by_cases hq : q = i.toNatClampNeg
  · subst hq
    simp [updV, ax_wR, va_up, va_rf]
  · simp [updV, ax_wR, va_up, hq]
def ax_tw (tw : Nat) (K : ax_K) : ax_K := fun ls st S C => K ls (ax_r (some tw) :: st) S C
theorem ax_S0 {ls : ax_L} {S : ax_S} {C : ax_C} {H : Heap} {lsA : Array Slot} {locs : List Loc} {cells slots : Nat} (h : ax_H D s R nL sl0 ls S C H lsA locs cells slots) : va_S (ax_A D) s.heap H locs := h.2.2.1
theorem sx_tw (X : ax_X D p s m args meth c own cc nL) {idx : Nat} (hl : Cond.fieldLinkNest own idx "PathEditor" "AREA_WEIGHTS" "[I" "PathEditor" ∈ ax_nw) (hd : decode cc pc = .ok (.getstatic idx, 3)) (k2 : (∀ ls st C, K ls st S C → ax_Z p l e R s m args below meth c D nL sl0 Q (pc + 3) ls st S C)) : (∀ ls st C, ax_tw D.2.2.2.2 K ls st S C → ax_Z p l e R s m args below meth c D nL sl0 Q (pc) ls st S C) := fun ls st C hK H lsA locs cells slots h =>
  va_getsN X.1 X.2.1 X.2.2.2.2.2.2.1.2.2.2.2.1 h.2.2.1 X.2.2.2.1 (va_Nw.use rfl (X.2.2.2.2.2.2.1.2.1 _ hl)) (fun _ q => q) hd (k2 _ _ _ hK _ _ _ _ _ h)
def ax_twl (tw : Nat) (K : ax_K) : ax_K := fun ls st S C => ax_pr st fun o t => o = some tw ∧ K ls (ax_i 12 :: t) S C
theorem sx_twl (X : ax_X D p s m args meth c own cc nL) (hd : decode cc pc = .ok (.arraylength, 1)) (k2 : (∀ ls st C, K ls st S C → ax_Z p l e R s m args below meth c D nL sl0 Q (pc + 1) ls st S C)) : (∀ ls st C, ax_twl D.2.2.2.2 K ls st S C → ax_Z p l e R s m args below meth c D nL sl0 Q (pc) ls st S C) := fun ls st C hK H lsA locs cells slots h => by
  obtain ⟨o, st, rfl, rfl, hK1⟩ := ax_pr_e hK
  exact va_tlen X.1 X.2.1 X.2.2.2.2.2.2.1.2.2.2.2.2 h.2.2.1 (v := 12) rfl hd (k2 _ _ _ hK1 _ _ _ _ _ h)
def ax_twa (tw : Nat) (K : ax_K) : ax_K := fun ls st S C => ax_pi st fun i t => ax_pr t fun o t => o = some tw ∧ vp_in i 12 ∧ K ls (ax_i (ax_wt i.toNatClampNeg) :: t) S C
theorem sx_twa (X : ax_X D p s m args meth c own cc nL) (hd : decode cc pc = .ok (.iaload, 1)) (k2 : (∀ ls st C, K ls st S C → ax_Z p l e R s m args below meth c D nL sl0 Q (pc + 1) ls st S C)) : (∀ ls st C, ax_twa D.2.2.2.2 K ls st S C → ax_Z p l e R s m args below meth c D nL sl0 Q (pc) ls st S C) := fun ls st C hK H lsA locs cells slots h => by
  obtain ⟨i, st, rfl, hK0⟩ := ax_pi_e hK
  obtain ⟨o, st, rfl, rfl, hi, hK1⟩ := ax_pr_e hK0
  exact va_ti X.1 X.2.1 X.2.2.2.2.2.2.1.2.2.2.2.2 h.2.2.1 hi rfl hd (k2 _ _ _ hK1 _ _ _ _ _ h)
def ax_rs : List ax_T → Nat
  | [] => 0
  | .inr (.inl _) :: t => 2 + ax_rs t
  | _ :: t => 1 + ax_rs t
def ax_ok (b : Bool) (F : Prop) : Prop := match b with
  | true => F
  | false => False
theorem ax_ok_e {b : Bool} {F : Prop} (h : ax_ok b F) : b = true ∧ F := by
  cases b
  · exact h.elim
  · exact ⟨rfl, h⟩
theorem ax_rs_eq : ∀ st : List ax_T, (((st.map ax_cv).map fun v => v.category).sum) = ax_rs st
  | [] => rfl
  | .inl x :: t => by simp [ax_rs, ax_cv, Value.category, ← ax_rs_eq t]
  | .inr (.inl x) :: t => by simp [ax_rs, ax_cv, Value.category, ← ax_rs_eq t]
  | .inr (.inr none) :: t => by simp [ax_rs, ax_cv, va_rf, Value.category, ← ax_rs_eq t]
  | .inr (.inr (some x)) :: t => by simp [ax_rs, ax_cv, va_rf, Value.category, ← ax_rs_eq t]
def ax_max (K : ax_K) : ax_K := fun ls st S C => ax_pi st fun y t => ax_pi t fun x t => ax_ok (Nat.ble (ax_rs t) 8) (K ls (ax_i (if x < y then y else x) :: t) S C)
theorem sx_max (X : ax_X D p s m args meth c own cc nL) {idx : Nat} (h1 : Cond.methodLink own idx Lib.Math.max.name ∈ ax_big) (h2 : Cond.static Lib.Math.max.name ∈ ax_big) (h3 : Cond.initialized "java/lang/Math" ∈ ax_big) (h4 : Cond.code Lib.Math.max.name Lib.Math.max.code 2 (some .int) ∈ ax_big) (hR : 1 ≤ R.frames ∧ 21 ≤ R.locals) (hd : decode cc pc = .ok (.invokestatic idx, 3)) (k2 : (∀ ls st C, K ls st S C → ax_Z p l e R s m args below meth c D nL sl0 Q (pc + 3) ls st S C)) : (∀ ls st C, ax_max K ls st S C → ax_Z p l e R s m args below meth c D nL sl0 Q (pc) ls st S C) := fun ls st C hK H lsA locs cells slots h => by
  obtain ⟨y, st, rfl, hK1⟩ := ax_pi_e hK
  obtain ⟨x, st, rfl, hK2⟩ := ax_pi_e hK1
  obtain ⟨hr, hK3⟩ := ax_ok_e hK2
  have hr2 := Nat.le_of_ble_eq_true hr
  rw [← ax_rs_eq] at hr2
  exact va_mmax X.1 X.2.1 (X.2.2.1.trans h.2.1.1.symm) X.2.2.2.1 (X.2.2.2.2.1 _ h1) (X.2.2.2.2.1 _ h2) (X.2.2.2.2.1 _ h3) (X.2.2.2.2.1 _ h4) hR.1 (by omega) h.2.2.2.2.2.1 h.2.2.2.2.2.2 hd (k2 _ _ _ hK3 _ _ _ _ _ h)
def ax_min (K : ax_K) : ax_K := fun ls st S C => ax_pi st fun y t => ax_pi t fun x t => ax_ok (Nat.ble (ax_rs t) 8) (K ls (ax_i (if y < x then y else x) :: t) S C)
theorem sx_min (X : ax_X D p s m args meth c own cc nL) {idx : Nat} (h1 : Cond.methodLink own idx Lib.Math.min.name ∈ ax_big) (h2 : Cond.static Lib.Math.min.name ∈ ax_big) (h3 : Cond.initialized "java/lang/Math" ∈ ax_big) (h4 : Cond.code Lib.Math.min.name Lib.Math.min.code 2 (some .int) ∈ ax_big) (hR : 1 ≤ R.frames ∧ 21 ≤ R.locals) (hd : decode cc pc = .ok (.invokestatic idx, 3)) (k2 : (∀ ls st C, K ls st S C → ax_Z p l e R s m args below meth c D nL sl0 Q (pc + 3) ls st S C)) : (∀ ls st C, ax_min K ls st S C → ax_Z p l e R s m args below meth c D nL sl0 Q (pc) ls st S C) := fun ls st C hK H lsA locs cells slots h => by
  obtain ⟨y, st, rfl, hK1⟩ := ax_pi_e hK
  obtain ⟨x, st, rfl, hK2⟩ := ax_pi_e hK1
  obtain ⟨hr, hK3⟩ := ax_ok_e hK2
  have hr2 := Nat.le_of_ble_eq_true hr
  rw [← ax_rs_eq] at hr2
  exact va_mmin X.1 X.2.1 (X.2.2.1.trans h.2.1.1.symm) X.2.2.2.1 (X.2.2.2.2.1 _ h1) (X.2.2.2.2.1 _ h2) (X.2.2.2.2.1 _ h3) (X.2.2.2.2.1 _ h4) hR.1 (by omega) h.2.2.2.2.2.1 h.2.2.2.2.2.2 hd (k2 _ _ _ hK3 _ _ _ _ _ h)
def ax_abs (K : ax_K) : ax_K := fun ls st S C => ax_pi st fun x t => ax_ok (Nat.ble (ax_rs t) 8) (K ls (ax_i (if 0 ≤ x then x else 0 - x) :: t) S C)
def ax_absl (K : ax_K) : ax_K := fun ls st S C => ax_pl st fun x t => ax_ok (Nat.ble (ax_rs t) 8) (K ls (ax_l (if 0 < x then x else -x) :: t) S C)
theorem sx_abs (X : ax_X D p s m args meth c own cc nL) {idx : Nat} (h1 : Cond.methodLink own idx Lib.Math.abs.name ∈ ax_big) (h2 : Cond.static Lib.Math.abs.name ∈ ax_big) (h3 : Cond.initialized "java/lang/Math" ∈ ax_big) (h4 : Cond.code Lib.Math.abs.name Lib.Math.abs.code 1 (some .int) ∈ ax_big) (hR : 1 ≤ R.frames ∧ 21 ≤ R.locals) (hd : decode cc pc = .ok (.invokestatic idx, 3)) (k2 : (∀ ls st C, K ls st S C → ax_Z p l e R s m args below meth c D nL sl0 Q (pc + 3) ls st S C)) : (∀ ls st C, ax_abs K ls st S C → ax_Z p l e R s m args below meth c D nL sl0 Q (pc) ls st S C) := fun ls st C hK H lsA locs cells slots h => by
  obtain ⟨x, st, rfl, hK2⟩ := ax_pi_e hK
  obtain ⟨hr, hK3⟩ := ax_ok_e hK2
  have hr2 := Nat.le_of_ble_eq_true hr
  rw [← ax_rs_eq] at hr2
  exact va_mabs X.1 X.2.1 (X.2.2.1.trans h.2.1.1.symm) X.2.2.2.1 (X.2.2.2.2.1 _ h1) (X.2.2.2.2.1 _ h2) (X.2.2.2.2.1 _ h3) (X.2.2.2.2.1 _ h4) hR.1 (by omega) h.2.2.2.2.2.1 h.2.2.2.2.2.2 hd (k2 _ _ _ hK3 _ _ _ _ _ h)
theorem sx_absl (X : ax_X D p s m args meth c own cc nL) {idx : Nat} (h1 : Cond.methodLink own idx Lib.MathLoose.abs_long.x ∈ ax_big) (h2 : Cond.static Lib.MathLoose.abs_long.x ∈ ax_big) (h3 : Cond.initialized "java/lang/Math" ∈ ax_big) (h4 : Cond.code Lib.MathLoose.abs_long.x Lib.MathLoose.abs_long.code 2 (some .long) ∈ ax_big) (hR : 1 ≤ R.frames ∧ 21 ≤ R.locals) (hd : decode cc pc = .ok (.invokestatic idx, 3)) (k2 : (∀ ls st C, K ls st S C → ax_Z p l e R s m args below meth c D nL sl0 Q (pc + 3) ls st S C)) : (∀ ls st C, ax_absl K ls st S C → ax_Z p l e R s m args below meth c D nL sl0 Q (pc) ls st S C) := fun ls st C hK H lsA locs cells slots h => by
  obtain ⟨x, st, rfl, hK2⟩ := ax_pl_e hK
  obtain ⟨hr, hK3⟩ := ax_ok_e hK2
  have hr2 := Nat.le_of_ble_eq_true hr
  rw [← ax_rs_eq] at hr2
  exact va_mabs_long X.1 X.2.1 (X.2.2.1.trans h.2.1.1.symm) X.2.2.2.1 (X.2.2.2.2.1 _ h1) (X.2.2.2.2.1 _ h2) (X.2.2.2.2.1 _ h3) (X.2.2.2.2.1 _ h4) hR.1 (by omega) h.2.2.2.2.2.1 h.2.2.2.2.2.2 hd (k2 _ _ _ hK3 _ _ _ _ _ h)
def ax_oini (K : ax_K) : ax_K := fun ls st S C => ax_pr st fun o t => ax_sm o fun _ => ax_ok (Nat.ble (ax_rs t) 8) (K ls t S C)
theorem sx_oini (X : ax_X D p s m args meth c own cc nL) {idx : Nat} (h1 : Cond.methodLink own idx Lib.objectInit ∈ ax_big) (h2 : Cond.instanceMethod Lib.objectInit ∈ ax_big) (h3 : Cond.code Lib.objectInit ⟨#[0xb1]⟩ 1 none ∈ ax_big) (hR : 1 ≤ R.frames ∧ 21 ≤ R.locals) (hd : decode cc pc = .ok (.invokespecial idx, 3)) (k2 : (∀ ls st C, K ls st S C → ax_Z p l e R s m args below meth c D nL sl0 Q (pc + 3) ls st S C)) : (∀ ls st C, ax_oini K ls st S C → ax_Z p l e R s m args below meth c D nL sl0 Q (pc) ls st S C) := fun ls st C hK H lsA locs cells slots h => by
  obtain ⟨o, st, rfl, hK1⟩ := ax_pr_e hK
  obtain ⟨a, rfl, hK2⟩ := ax_sm_e hK1
  obtain ⟨hr, hK3⟩ := ax_ok_e hK2
  have hr2 := Nat.le_of_ble_eq_true hr
  rw [← ax_rs_eq] at hr2
  exact W.objInit X.1 X.2.1 X.2.2.2.1 (X.2.2.2.2.1 _ h1) (X.2.2.2.2.1 _ h2) (X.2.2.2.2.1 _ h3) rfl (h.2.1.1.trans X.2.2.1.symm) rfl hd hR.1 (by show 2 * 0 + _ + 12 ≤ _; omega) (k2 _ _ _ hK3 _ _ _ _ _ h)
def ax_cpy (K : ax_K) : ax_K := fun ls st S C => ax_pi st fun n t => ax_pi t fun dp t => ax_pr t fun d t => ax_pi t fun sp t => ax_pr t fun o t => ax_sm d fun a => ax_sm o fun b => S.1 a = 11 ∧ S.1 b = 11 ∧ ¬ sp < 0 ∧ ¬ dp < 0 ∧ ¬ n < 0 ∧ sp.toNatClampNeg + n.toNatClampNeg ≤ S.2.1 b ∧ dp.toNatClampNeg + n.toNatClampNeg ≤ S.2.1 a ∧ ax_ok (Nat.ble (ax_rs t) 8) (K ls t S (ax_rI C a (va_cpy (C.1 b) (C.1 a) sp.toNatClampNeg dp.toNatClampNeg n.toNatClampNeg)))
theorem sx_cpy (X : ax_X D p s m args meth c own cc nL) {idx : Nat} (g1 : Cond.methodLink own idx arraycopyName ∈ ax_big) (g2 : Cond.native arraycopyName ∈ ax_big) (g3 : Cond.static arraycopyName ∈ ax_big) (g4 : Cond.initialized "java/lang/System" ∈ ax_big) (hR : 1 ≤ R.frames ∧ 26 ≤ R.locals) (hd : decode cc pc = .ok (.invokestatic idx, 3)) (k2 : (∀ ls st C, K ls st S C → ax_Z p l e R s m args below meth c D nL sl0 Q (pc + 3) ls st S C)) : (∀ ls st C, ax_cpy K ls st S C → ax_Z p l e R s m args below meth c D nL sl0 Q (pc) ls st S C) := fun ls st C hK H lsA locs cells slots h => by
  obtain ⟨n, st, rfl, hK1⟩ := ax_pi_e hK
  obtain ⟨dp, st, rfl, hK2⟩ := ax_pi_e hK1
  obtain ⟨d, st, rfl, hK3⟩ := ax_pr_e hK2
  obtain ⟨sp, st, rfl, hK4⟩ := ax_pi_e hK3
  obtain ⟨o, st, rfl, hK5⟩ := ax_pr_e hK4
  obtain ⟨a, rfl, hK6⟩ := ax_sm_e hK5
  obtain ⟨b, rfl, ha, hb, h1, h2, h3, h4, h5, hK7⟩ := ax_sm_e hK6
  obtain ⟨hr, hK8⟩ := ax_ok_e hK7
  have hr2 := Nat.le_of_ble_eq_true hr
  rw [← ax_rs_eq] at hr2
  obtain ⟨ka, hka⟩ := ax_at h.1 (by omega : S.1 a ≠ 0)
  obtain ⟨kb, hkb⟩ := ax_at h.1 (by omega : S.1 b ≠ 0)
  rw [ax_f_arr (t := 0) ha (by omega)] at hka
  rw [ax_f_arr (t := 0) hb (by omega)] at hkb
  have hKt := X.2.2.2.2.2.2.1.1.2 0 _ (ax_tys_at (by omega))
  have ca := h.1.2.2.1 ka _ hka
  have cb := h.1.2.2.1 kb _ hkb
  obtain ⟨-, kA, hkA, cmA, hkkA⟩ := hKt.1 (S.2.1 a) (fun j => .int (C.1 a j))
  obtain ⟨-, kB, hkB, cmB, hkkB⟩ := hKt.1 (S.2.1 b) (fun j => .int (C.1 b j))
  have nn : ∀ z : Int32, ¬ z < 0 → z.toInt = (z.toNatClampNeg : Int) := by
    intro z hz
    have h0 := Int32.le_iff_toInt_le.mp (Int32.not_lt.mp hz)
    have h1 : (0 : Int32).toInt = 0 := rfl
    show z.toInt = ((z.toInt.toNat : Nat) : Int)
    omega
  intro T hT X0
  have dA : T.heap[a]? = some (arrV (D.2.2.1 0) (S.2.1 a) (fun j => .int (C.1 a j))) := by rw [hT]; exact ca
  have dB : T.heap[b]? = some (arrV (D.2.2.1 0) (S.2.1 b) (fun j => .int (C.1 b j))) := by rw [hT]; exact cb
  obtain ⟨vm', X', step⟩ := X0.arraycopy X.1 X.2.2.2.1 (X.2.2.2.2.1 _ g1) (X.2.2.2.2.1 _ g2) (X.2.2.2.2.1 _ g3) (X.2.2.2.2.1 _ g4) (srcPos := sp) (destPos := dp) (n := n) dB dA (fun _ q => by cases q) (fun _ q => by cases q) (fun q => by cases q) (fun q => by cases q) hkB hkA hkkB hkkA rfl h1 h2 h3
    (by rw [nn sp h1, nn n h3, arrV_size]; omega) (by rw [nn dp h2, nn n h3, arrV_size]; omega)
    (fun vm1 _ i hi => by
      have e : (arrV (D.2.2.1 0) (S.2.1 b) (fun j => .int (C.1 b j))).slots.getD (sp.toNatClampNeg + i) .null = .int (C.1 b (sp.toNatClampNeg + i)) := by
        rw [Array.getD_eq_getD_getElem?, arrV_read _ _ (by omega)]
        rfl
      rw [e]
      exact ⟨rfl, trivial⟩)
    (g := F0 m pc lsA (.int n :: .int dp :: .ref a :: .int sp :: .ref b :: st.map ax_cv)) rfl (h.2.1.1.trans X.2.2.1.symm) rfl (by rw [X.2.1]; exact hd) hR.1 (by show 2 * 0 + _ + (7 + 11) ≤ _; omega)
  have e1 : copied (arrV (D.2.2.1 0) (S.2.1 b) (fun j => .int (C.1 b j))) (arrV (D.2.2.1 0) (S.2.1 a) (fun j => .int (C.1 a j))) sp dp n = arrV (D.2.2.1 0) (S.2.1 a) (fun j => .int (va_cpy (C.1 b) (C.1 a) sp.toNatClampNeg dp.toNatClampNeg n.toNatClampNeg j)) := va_copied (fun z => .int z) _ _ (C.1 b) (C.1 a) h4
  rw [e1] at X' step
  have hl : a < H.size := (Array.getElem?_eq_some_iff.mp ca).1
  have hh : ((T.setVm vm').setCell a (arrV (D.2.2.1 0) (S.2.1 a) (fun j => .int (va_cpy (C.1 b) (C.1 a) sp.toNatClampNeg dp.toNatClampNeg n.toNatClampNeg j)))).heap = H.setIfInBounds a (arrV (D.2.2.1 0) (S.2.1 a) (fun j => .int (va_cpy (C.1 b) (C.1 a) sp.toNatClampNeg dp.toNatClampNeg n.toNatClampNeg j))) := by rw [← hT]; rfl
  have oq : ∀ q : Nat, q ≠ a → (H.setIfInBounds a (arrV (D.2.2.1 0) (S.2.1 a) (fun j => .int (va_cpy (C.1 b) (C.1 a) sp.toNatClampNeg dp.toNatClampNeg n.toNatClampNeg j))))[q]? = H[q]? := fun q hq => by simp [Array.getElem?_setIfInBounds, Ne.symm hq]
  have hnew : ax_R D S (ax_rI C a (va_cpy (C.1 b) (C.1 a) sp.toNatClampNeg dp.toNatClampNeg n.toNatClampNeg)) (H.setIfInBounds a (arrV (D.2.2.1 0) (S.2.1 a) (fun j => .int (va_cpy (C.1 b) (C.1 a) sp.toNatClampNeg dp.toNatClampNeg n.toNatClampNeg j)))) := by
    refine ax_R_set h.1 (a := a) (by omega) ?_ (by simp) oq (fun d hd => ax_f_other (by simp [ax_rI, va_up, hd]) rfl rfl)
    rw [ax_f_arr (t := 0) ha (by omega)]
    show (H.setIfInBounds a _)[a]? = some (vp_cell _ _)
    rw [vp_cell_i]
    simp [Array.getElem?_setIfInBounds, hl, ax_rI, va_up]
  have hS := h.2.2.1
  have aA := (h.1.2.2.2 a (by omega)).1
  obtain ⟨t, a1, b1⟩ := k2 _ _ _ hK8 _ _ _ cells slots ⟨hnew, h.2.1, ⟨by simp; exact hS.1, fun q z1 z2 => by
      rw [oq q (fun e => z2 (by rw [e]; exact aA))]
      exact hS.2.1 q z1 z2, fun q hq => by
      rcases List.mem_append.mp hq with z | z
      · exact hS.2.2 q z
      · obtain ⟨y, -, hy⟩ := List.mem_map.mp z
        rw [← hy]
        exact aA⟩, h.2.2.2⟩ _ hh X'
  exact ⟨t, step t a1, b1⟩
end AXH
end
section
/-! ===== making cells, calls, returns, methods ===== -/
/-- name, code, locals, answer, (frames, words, cells, slots), the receiver's kind (0: static) -/
abbrev ax_M : Type := MethodName × ByteArray × Nat × Option FieldType × (Nat × Nat × Nat × Nat) × Nat
def ax_rm (M : ax_M) : Room := { frames := M.2.2.2.2.1.1, cells := M.2.2.2.2.1.2.2.1, slots := M.2.2.2.2.1.2.2.2, locals := M.2.2.2.2.1.2.1 }
abbrev ax_cs (M : ax_M) : Nat := M.2.2.2.2.1.2.2.1
abbrev ax_sl (M : ax_M) : Nat := M.2.2.2.2.1.2.2.2
def ax_Q (D : ax_D) (S : ax_S) (mc ms : Nat) (Post : ax_P) : Array Value → State → Outcome → State → Prop := fun _ st o t => (∃ r S' C', o = .returned (r.map ax_cv) ∧ Post r S' C' ∧ ax_R D S' C' t.heap ∧ S'.2.2.1 = S.2.2.1 + mc ∧ S'.2.2.2 = S.2.2.2 + ms) ∧ va_F (ax_A D) st t
/-- a call of M comes back with what Post tells -/
def ax_Call (l : Launch) (D : ax_D) (M : ax_M) (av : List ax_T) (S : ax_S) (C : ax_C) (Post : ax_P) : Prop :=
  (M.2.2.2.2.2 ≠ 0 → ∃ b t, av = ax_r (some b) :: t ∧ S.1 b = M.2.2.2.2.2) ∧ Met l M.1 (Cond.code M.1 M.2.1 M.2.2.1 M.2.2.2.1 :: ax_big) (ax_rm M) (va_Pc (av.map ax_cv) (fun U => ax_R D S C U.heap ∧ ax_U D U)) (ax_Q D S (ax_cs M) (ax_sl M) Post) (ax_cs M) (ax_sl M) (ax_A D)
theorem ax_Call.mono {l : Launch} {D : ax_D} {M : ax_M} {av : List ax_T} {S : ax_S} {C : ax_C} {P P' : ax_P} (h : ax_Call l D M av S C P) (hP : ∀ r S' C', P r S' C' → P' r S' C') : ax_Call l D M av S C P' :=
  ⟨h.1, MetFree.mono h.2 (fun _ _ q => q) (fun _ _ _ _ _ q => q) (fun a st o t _ q => by
    obtain ⟨⟨⟨r, S', C', h1, h2, h3⟩, h4⟩, h5⟩ := q
    exact ⟨⟨⟨r, S', C', h1, hP _ _ _ h2, h3⟩, h4⟩, h5⟩)⟩
def ax_CI (l : Launch) (D : ax_D) (M : ax_M) (av : List ax_T) (S : ax_S) (C : ax_C) (P : Int32 → ax_C → Prop) : Prop := ax_Call l D M av S C fun r S' C' => ∃ x, r = some (ax_i x) ∧ S' = S ∧ P x C'
def ax_CL (l : Launch) (D : ax_D) (M : ax_M) (av : List ax_T) (S : ax_S) (C : ax_C) (P : Int64 → ax_C → Prop) : Prop := ax_Call l D M av S C fun r S' C' => ∃ x, r = some (ax_l x) ∧ S' = S ∧ P x C'
def ax_CR (l : Launch) (D : ax_D) (M : ax_M) (av : List ax_T) (S : ax_S) (C : ax_C) (P : Option Nat → ax_C → Prop) : Prop := ax_Call l D M av S C fun r S' C' => ∃ x, r = some (ax_r x) ∧ S' = S ∧ P x C'
def ax_CV (l : Launch) (D : ax_D) (M : ax_M) (av : List ax_T) (S : ax_S) (C : ax_C) (P : ax_C → Prop) : Prop := ax_Call l D M av S C fun r S' C' => r = none ∧ S' = S ∧ P C'
/-- a constructor's call -/
def ax_CA (l : Launch) (D : ax_D) (M : ax_M) (av : List ax_T) (S : ax_S) (C : ax_C) (P : ax_S → ax_C → Prop) : Prop := ax_Call l D M av S C fun r S' C' => r = none ∧ P S' C'
theorem ax_CI.mono {l : Launch} {D : ax_D} {M : ax_M} {av : List ax_T} {S : ax_S} {C : ax_C} {P P' : Int32 → ax_C → Prop} (h : ax_CI l D M av S C P) (hP : ∀ x C', P x C' → P' x C') : ax_CI l D M av S C P' := ax_Call.mono h fun _ _ _ ⟨x, h1, h2, h3⟩ => ⟨x, h1, h2, hP _ _ h3⟩
theorem ax_CL.mono {l : Launch} {D : ax_D} {M : ax_M} {av : List ax_T} {S : ax_S} {C : ax_C} {P P' : Int64 → ax_C → Prop} (h : ax_CL l D M av S C P) (hP : ∀ x C', P x C' → P' x C') : ax_CL l D M av S C P' := ax_Call.mono h fun _ _ _ ⟨x, h1, h2, h3⟩ => ⟨x, h1, h2, hP _ _ h3⟩
theorem ax_CR.mono {l : Launch} {D : ax_D} {M : ax_M} {av : List ax_T} {S : ax_S} {C : ax_C} {P P' : Option Nat → ax_C → Prop} (h : ax_CR l D M av S C P) (hP : ∀ x C', P x C' → P' x C') : ax_CR l D M av S C P' := ax_Call.mono h fun _ _ _ ⟨x, h1, h2, h3⟩ => ⟨x, h1, h2, hP _ _ h3⟩
theorem ax_CV.mono {l : Launch} {D : ax_D} {M : ax_M} {av : List ax_T} {S : ax_S} {C : ax_C} {P P' : ax_C → Prop} (h : ax_CV l D M av S C P) (hP : ∀ C', P C' → P' C') : ax_CV l D M av S C P' := ax_Call.mono h fun _ _ _ ⟨h1, h2, h3⟩ => ⟨h1, h2, hP _ h3⟩
theorem ax_CA.mono {l : Launch} {D : ax_D} {M : ax_M} {av : List ax_T} {S : ax_S} {C : ax_C} {P P' : ax_S → ax_C → Prop} (h : ax_CA l D M av S C P) (hP : ∀ S' C', P S' C' → P' S' C') : ax_CA l D M av S C P' := ax_Call.mono h fun _ _ _ ⟨h1, h3⟩ => ⟨h1, hP _ _ h3⟩
/-- an answer that is told, and nothing changed -/
theorem ax_CI.use {l : Launch} {D : ax_D} {M : ax_M} {av : List ax_T} {S : ax_S} {C C1 : ax_C} {v : Int32} {P : Int32 → ax_C → Prop} (h : ax_CI l D M av S C fun x C' => x = v ∧ C' = C1) (hP : P v C1) : ax_CI l D M av S C P := h.mono fun _ _ ⟨h1, h2⟩ => by rw [h1, h2]; exact hP
theorem ax_CL.use {l : Launch} {D : ax_D} {M : ax_M} {av : List ax_T} {S : ax_S} {C C1 : ax_C} {v : Int64} {P : Int64 → ax_C → Prop} (h : ax_CL l D M av S C fun x C' => x = v ∧ C' = C1) (hP : P v C1) : ax_CL l D M av S C P := h.mono fun _ _ ⟨h1, h2⟩ => by rw [h1, h2]; exact hP
theorem ax_CR.use {l : Launch} {D : ax_D} {M : ax_M} {av : List ax_T} {S : ax_S} {C C1 : ax_C} {v : Option Nat} {P : Option Nat → ax_C → Prop} (h : ax_CR l D M av S C fun x C' => x = v ∧ C' = C1) (hP : P v C1) : ax_CR l D M av S C P := h.mono fun _ _ ⟨h1, h2⟩ => by rw [h1, h2]; exact hP
theorem ax_CV.use {l : Launch} {D : ax_D} {M : ax_M} {av : List ax_T} {S : ax_S} {C C1 : ax_C} {P : ax_C → Prop} (h : ax_CV l D M av S C fun C' => C' = C1) (hP : P C1) : ax_CV l D M av S C P := h.mono fun _ h2 => by rw [h2]; exact hP
def ax_MF (M : ax_M) (n : Nat) : Prop := Cond.code M.1 M.2.1 M.2.2.1 M.2.2.2.1 ∈ ax_big ∧ Cond.initialized M.1.cls ∈ ax_big ∧ (M.1.cls ≠ "java/lang/invoke/MethodHandle" ∧ M.1.cls ≠ "java/lang/invoke/VarHandle" ∧ (parseMethodDescriptor M.1.desc).map (fun d => d.parameters.length) = some n)
def ax_MV (M : ax_M) (n : Nat) : Prop := ax_MF M n ∧ Cond.instanceMethod M.1 ∈ ax_big ∧ Cond.selects M.1.cls M.1 M.1 ∈ ax_big ∧ ∃ ci T, ax_CF ci M.1.cls T ∧ M.2.2.2.2.2 = ci + 1
def ax_MS (M : ax_M) (n : Nat) : Prop := ax_MF M n ∧ Cond.static M.1 ∈ ax_big
def ax_MI (M : ax_M) (n : Nat) : Prop := ax_MF M n ∧ Cond.instanceMethod M.1 ∈ ax_big ∧ M.1.name = "<init>" ∧ M.2.2.2.1 = none
def ax_ML (own : String) (idx : Nat) (M : ax_M) : Prop := Cond.methodLink own idx M.1 ∈ ax_big ∨ Cond.methodLinkNest own idx M.1 "PathEditor" ∈ ax_nw
def ax_RM (R : Room) (M : ax_M) : Prop := (ax_rm M).frames + 1 ≤ R.frames ∧ 8 + (M.2.2.1 + 11) + (ax_rm M).locals ≤ R.locals
theorem ax_big_good {w : Cond} (h : w ∈ ax_big) : (w.onTables && w.keeps) = true ∨ ∃ ty, w = .arrayClass ty := good_of_word (List.mem_filter.mp h).2
theorem ax_goodIn {M : ax_M} {n : Nat} (h : ax_MF M n) : GoodIn ax_big (Cond.code M.1 M.2.1 M.2.2.1 M.2.2.2.1 :: ax_big) := fun w hw => by
  rcases List.mem_cons.mp hw with rfl | hw
  · exact ⟨h.1, ax_big_good h.1⟩
  · exact ⟨hw, ax_big_good hw⟩
def ax_av : Nat → List ax_T → List ax_T → List ax_T × List ax_T
  | 0, acc, st => (acc, st)
  | _ + 1, acc, [] => (acc, [])
  | n + 1, acc, x :: st => ax_av n (x :: acc) st
theorem ax_av_eq : ∀ (n : Nat) (acc st : List ax_T), (ax_av n acc st).1.reverse ++ (ax_av n acc st).2 = acc.reverse ++ st
  | 0, acc, st => rfl
  | _ + 1, acc, [] => rfl
  | n + 1, acc, x :: st => by
    rw [ax_av, ax_av_eq n (x :: acc) st]
    simp
theorem ax_av_len : ∀ (n : Nat) (acc st : List ax_T), n ≤ st.length → (ax_av n acc st).1.length = acc.length + n
  | 0, acc, st, _ => rfl
  | _ + 1, acc, [], h => by simp at h
  | n + 1, acc, x :: st, h => by
    rw [ax_av, ax_av_len n (x :: acc) st (by simpa using h)]
    simp
    omega
theorem ax_blind {D : ax_D} {S : ax_S} {C : ax_C} {av : List Value} : FrameBlind (va_Pc av (fun U => ax_R D S C U.heap ∧ ax_U D U)) := fun a U g mk ⟨q1, q2, q3⟩ =>
  ⟨q1, q2, va_K.moved (u := U) (U := U.calling g mk a) (Vm.Alike.refl U.vm) q3.1, fun w hw => by
    have hw2 := (List.mem_filter.mp hw).2
    have h1 := q3.2.1 w hw
    cases w <;> first | (cases hw2; done) | exact va_Nw.same (U := U.calling g mk a) rfl rfl h1, va_AO.moved (u := U) (U := U.calling g mk a) (Vm.Alike.refl U.vm) q3.2.2.1, va_AO.moved (u := U) (U := U.calling g mk a) (Vm.Alike.refl U.vm) q3.2.2.2.1, va_Z.moved (u := U) (U := U.calling g mk a) (Vm.Alike.refl U.vm) q3.2.2.2.2.1, va_T.moved (u := U) (U := U.calling g mk a) (Vm.Alike.refl U.vm) q3.2.2.2.2.2⟩
section AXC
variable {p : Program} {l : Launch} {e : Env} {R : Room} {s : State} {m : MethodId} {args : Array Value} {below : List Frame} {meth : Method} {c : Code} {D : ax_D} {nL sl0 : Nat} {Q : State → Prop} {own : String} {cc : ByteArray} {pc : Nat} {S : ax_S} {K K1 K2 : ax_K}
theorem ax_pre (X : ax_X D p s m args meth c own cc nL) {av : List ax_T} {ls : ax_L} {C : ax_C} {H : Heap} {lsA : Array Slot} {locs : List Loc} {cells slots : Nat} (h : ax_H D s R nL sl0 ls S C H lsA locs cells slots) : ∀ U : State, U.heap = H → s.WarmedH U.vm → va_Pc (av.map ax_cv) (fun U => ax_R D S C U.heap ∧ ax_U D U) (av.map ax_cv).toArray U := fun U hU hW => ⟨rfl, by rw [hU]; exact h.1, ax_U_moved hW (fun a h1 h2 => by rw [hU]; exact h.2.2.1.2.1 a h1 h2) X.2.2.2.2.2.2.1⟩
theorem ax_cont {M : ax_M} {Post : ax_P} {ls : ax_L} {C : ax_C} {H : Heap} {lsA : Array Slot} {locs : List Loc} {cells slots : Nat} {rest st0 : List Value} {a : Array Value} (h : ax_H D s R nL sl0 ls S C H lsA locs cells slots) (hroom : cells + ax_cs M ≤ R.cells ∧ slots + ax_sl M ≤ R.slots) (hr : va_Run p l e R s m args below meth c H locs cells slots (ax_cs M) (ax_sl M) (F0 m pc lsA st0) rest (ax_Q D S (ax_cs M) (ax_sl M) Post a) (ax_A D))
    (kk : ∀ r S' C' H' locs', Post r S' C' → ax_H D s R nL sl0 ls S' C' H' lsA locs' (cells + ax_cs M) (slots + ax_sl M) → W p l e R s m args below meth c H' locs' (cells + ax_cs M) (slots + ax_sl M) Q (F0 m (pc + 3) lsA ((r.map ax_cv).toList ++ rest))) : W p l e R s m args below meth c H locs cells slots Q (F0 m pc lsA st0) := by
  intro T hT X
  obtain ⟨v, st₀, t, T', L, h0, X', hL, e1, e2, ⟨⟨r, S', C', hv, hp, hR, hz1, hz2⟩, hz, hk⟩, st⟩ := hr T hT X
  cases hv
  rw [h0] at hz hk
  have hS := h.2.2.1
  obtain ⟨t2, a1, b1⟩ := kk r S' C' T'.heap (locs ++ L) hp ⟨by rw [e1]; exact hR, h.2.1, ⟨Nat.le_trans hS.1 (by rw [e1]; exact hz), fun q h1 h2 => by rw [e1, hk q (Nat.lt_of_lt_of_le h1 hS.1) h2]; exact hS.2.1 q h1 h2, fun q hq => by
      rcases List.mem_append.mp hq with h | h
      · exact hS.2.2 q h
      · exact hL q h⟩, by have := h.2.2.2.1; omega, by have := h.2.2.2.2.1; omega, hroom⟩ T' rfl X'
  exact ⟨t2, st t2 a1, b1⟩
theorem ax_callV (X : ax_X D p s m args meth c own cc nL) {M : ax_M} {n idx b : Nat} {As st : List ax_T} {Post : ax_P} (hM : ax_MV M n) (hl : ax_ML own idx M) (hRM : ax_RM R M) (hd : decode cc pc = .ok (.invokevirtual idx, 3)) {ls : ax_L} {C : ax_C} {H : Heap} {lsA : Array Slot} {locs : List Loc} {cells slots : Nat} (h : ax_H D s R nL sl0 ls S C H lsA locs cells slots) (hn : As.length = n) (hst : ax_rs st ≤ 8) (hroom : cells + ax_cs M ≤ R.cells ∧ slots + ax_sl M ≤ R.slots) (hC : ax_Call l D M (ax_r (some b) :: As) S C Post) : va_Run p l e R s m args below meth c H locs cells slots (ax_cs M) (ax_sl M) (F0 m pc lsA ((As.map ax_cv).reverse ++ .ref b :: st.map ax_cv)) (st.map ax_cv) (ax_Q D S (ax_cs M) (ax_sl M) Post ((ax_r (some b) :: As).map ax_cv).toArray) (ax_A D) := by
  obtain ⟨hF, hin, hsel, ci, T, hCF, hk⟩ := hM
  obtain ⟨hrecv, hMet⟩ := hC
  obtain ⟨b', t', e1, e2⟩ := hrecv (by omega)
  cases e1
  have hcell : ∃ cellB : Cell, H[b]? = some cellB ∧ cellB.vm.isStatics = false ∧ s.vm.findClass M.1.cls = some cellB.cls := by
    obtain ⟨k0, hk0⟩ := ax_at h.1 (a := b) (by omega)
    rw [ax_f_obj (e2.trans hk) hCF.2.2.2.2] at hk0
    exact va_recv X.2.2.2.2.2.2.1.1 h.1.2.2.1 hCF.1 hk0
  have hst2 : ((st.map ax_cv).map fun v => v.category).sum ≤ 8 := by rw [ax_rs_eq]; exact hst
  have hp : PreV s H M.1.cls b (va_Pc ((ax_r (some b) :: As).map ax_cv) (fun U => ax_R D S C U.heap ∧ ax_U D U)) (As.map ax_cv) := ⟨ax_blind, hcell, ax_pre X (av := ax_r (some b) :: As) h⟩
  have hts := X.2.2.2.2.1
  rcases hl with hl | hl
  · exact va_runV (Ts := ax_big) (own := own) (C := M.1.cls) ⟨X.1, X.2.1, X.2.2.1, X.2.2.2.1, hts⟩ hMet ⟨callB_of n hts (ax_goodIn hF) rfl rfl rfl (hts _ hF.2.1) (hts _ hl) hF.2.2 hRM, hts _ hin, hts _ hsel⟩ hp rfl (by simpa using hn) h.2.1.1 rfl (lv_room hst2) hd hroom
  · exact va_runVN (Ts := ax_big) (own := own) (C := M.1.cls) (host := "PathEditor") ⟨X.1, X.2.1, X.2.2.1, X.2.2.2.1, hts⟩ hMet ⟨va_cnB n hts (ax_goodIn hF) rfl rfl rfl (X.2.2.2.2.2.2.1.2.1 _ hl) (hts _ hF.2.1) hF.2.2 hRM, hts _ hin, hts _ hsel⟩ hp rfl (by simpa using hn) h.2.1.1 rfl (lv_room hst2) hd hroom
theorem ax_callS (X : ax_X D p s m args meth c own cc nL) {M : ax_M} {n idx : Nat} {As st : List ax_T} {Post : ax_P} (hM : ax_MS M n) (hl : ax_ML own idx M) (hRM : ax_RM R M) (hd : decode cc pc = .ok (.invokestatic idx, 3)) {ls : ax_L} {C : ax_C} {H : Heap} {lsA : Array Slot} {locs : List Loc} {cells slots : Nat} (h : ax_H D s R nL sl0 ls S C H lsA locs cells slots) (hn : As.length = n) (hst : ax_rs st ≤ 8) (hroom : cells + ax_cs M ≤ R.cells ∧ slots + ax_sl M ≤ R.slots) (hC : ax_Call l D M As S C Post) : va_Run p l e R s m args below meth c H locs cells slots (ax_cs M) (ax_sl M) (F0 m pc lsA ((As.map ax_cv).reverse ++ st.map ax_cv)) (st.map ax_cv) (ax_Q D S (ax_cs M) (ax_sl M) Post (As.map ax_cv).toArray) (ax_A D) := by
  obtain ⟨hF, hstat⟩ := hM
  obtain ⟨-, hMet⟩ := hC
  have hst2 : ((st.map ax_cv).map fun v => v.category).sum ≤ 8 := by rw [ax_rs_eq]; exact hst
  have hp : PreS s H (va_Pc (As.map ax_cv) (fun U => ax_R D S C U.heap ∧ ax_U D U)) (As.map ax_cv) := ⟨ax_blind, ax_pre X h⟩
  have hts := X.2.2.2.2.1
  rcases hl with hl | hl
  · exact va_runS (Ts := ax_big) (own := own) ⟨X.1, X.2.1, X.2.2.1, X.2.2.2.1, hts⟩ hMet ⟨callB_of n hts (ax_goodIn hF) rfl rfl rfl (hts _ hF.2.1) (hts _ hl) hF.2.2 hRM, hts _ hstat⟩ hp rfl (by simpa using hn) h.2.1.1 rfl (lv_room hst2) hd hroom
  · exact va_runSN (Ts := ax_big) (own := own) (host := "PathEditor") ⟨X.1, X.2.1, X.2.2.1, X.2.2.2.1, hts⟩ hMet ⟨va_cnB n hts (ax_goodIn hF) rfl rfl rfl (X.2.2.2.2.2.2.1.2.1 _ hl) (hts _ hF.2.1) hF.2.2 hRM, hts _ hstat, trivial⟩ hp rfl (by simpa using hn) h.2.1.1 rfl (lv_room hst2) hd hroom
theorem ax_callI (X : ax_X D p s m args meth c own cc nL) {M : ax_M} {n idx b : Nat} {As st : List ax_T} {Post : ax_P} (hM : ax_MI M n) (hl : ax_ML own idx M) (hRM : ax_RM R M) (hd : decode cc pc = .ok (.invokespecial idx, 3)) {ls : ax_L} {C : ax_C} {H : Heap} {lsA : Array Slot} {locs : List Loc} {cells slots : Nat} (h : ax_H D s R nL sl0 ls S C H lsA locs cells slots) (hn : As.length = n) (hst : ax_rs st ≤ 8) (hroom : cells + ax_cs M ≤ R.cells ∧ slots + ax_sl M ≤ R.slots) (hC : ax_Call l D M (ax_r (some b) :: As) S C Post) : va_Run p l e R s m args below meth c H locs cells slots (ax_cs M) (ax_sl M) (F0 m pc lsA ((As.map ax_cv).reverse ++ .ref b :: st.map ax_cv)) (st.map ax_cv) (ax_Q D S (ax_cs M) (ax_sl M) Post ((ax_r (some b) :: As).map ax_cv).toArray) (ax_A D) := by
  obtain ⟨hF, hin, hnm, hret⟩ := hM
  obtain ⟨-, hMet⟩ := hC
  have hst2 : ((st.map ax_cv).map fun v => v.category).sum ≤ 8 := by rw [ax_rs_eq]; exact hst
  have hp : PreS s H (va_Pc ((ax_r (some b) :: As).map ax_cv) (fun U => ax_R D S C U.heap ∧ ax_U D U)) (.ref b :: As.map ax_cv) := ⟨ax_blind, ax_pre X (av := ax_r (some b) :: As) h⟩
  have hts := X.2.2.2.2.1
  have hG := ax_goodIn hF
  rw [hret] at hMet hG
  rcases hl with hl | hl
  · exact va_runI (Ts := ax_big) (own := own) ⟨X.1, X.2.1, X.2.2.1, X.2.2.2.1, hts⟩ hMet ⟨callB_of n hts hG rfl rfl rfl (hts _ hF.2.1) (hts _ hl) hF.2.2 hRM, hnm, hts _ hin⟩ hp rfl (by simpa using hn) h.2.1.1 rfl (lv_room hst2) hd hroom
  · exact va_runIN (Ts := ax_big) (own := own) (host := "PathEditor") ⟨X.1, X.2.1, X.2.2.1, X.2.2.2.1, hts⟩ hMet ⟨va_cnB n hts hG rfl rfl rfl (X.2.2.2.2.2.2.1.2.1 _ hl) (hts _ hF.2.1) hF.2.2 hRM, hnm, hts _ hin⟩ hp rfl (by simpa using hn) h.2.1.1 rfl (lv_room hst2) hd hroom
theorem ax_stk {n : Nat} {st : List ax_T} : st.map ax_cv = (((ax_av n [] st).1).map ax_cv).reverse ++ (ax_av n [] st).2.map ax_cv := by
  have := ax_av_eq n [] st
  simp at this
  rw [← List.map_reverse, ← List.map_append, this]
def ax_vci (l : Launch) (D : ax_D) (M : ax_M) (nA : Nat) (K : ax_K) : ax_K := fun ls st S C => ax_pr (ax_av nA [] st).2 fun o t => ax_ok (Nat.ble (ax_rs t) 8) (ax_CI l D M (ax_r o :: (ax_av nA [] st).1) S C (fun x C' => K ls (ax_i x :: t) S C'))
def ax_sci (l : Launch) (D : ax_D) (M : ax_M) (nA : Nat) (K : ax_K) : ax_K := fun ls st S C => ax_ok (Nat.ble (ax_rs (ax_av nA [] st).2) 8) (ax_CI l D M (ax_av nA [] st).1 S C (fun x C' => K ls (ax_i x :: (ax_av nA [] st).2) S C'))
theorem sx_vci (X : ax_X D p s m args meth c own cc nL) {M : ax_M} {nA idx : Nat} (hM : ax_MV M nA) (hl : ax_ML own idx M) (hRM : ax_RM R M) (h0 : ax_cs M = 0 ∧ ax_sl M = 0) (hd : decode cc pc = .ok (.invokevirtual idx, 3)) (k2 : (∀ ls st C, K ls st S C → ax_Z p l e R s m args below meth c D nL sl0 Q (pc + 3) ls st S C)) : ∀ ls st C, nA ≤ st.length → ax_vci l D M nA K ls st S C → ax_Z p l e R s m args below meth c D nL sl0 Q pc ls st S C := fun ls st C hlen hK H lsA locs cells slots h => by
  obtain ⟨o, t, e1, hK1⟩ := ax_pr_e hK
  obtain ⟨hr, hK2⟩ := ax_ok_e hK1
  have hk : M.2.2.2.2.2 ≠ 0 := by obtain ⟨-, -, -, ci, T, -, q⟩ := hM; omega
  obtain ⟨b, t', e2, e3⟩ := hK2.1 hk
  cases e2
  have hroom : cells + ax_cs M ≤ R.cells ∧ slots + ax_sl M ≤ R.slots := by have := h.2.2.2.2.2; omega
  rw [ax_stk (n := nA) (st := st), e1]
  refine ax_cont h hroom (ax_callV X hM hl hRM hd h (by rw [ax_av_len nA [] st hlen]; simp) (Nat.le_of_ble_eq_true hr) hroom hK2) ?_
  rintro r S' C' H' locs' ⟨x, rfl, rfl, hK3⟩ h'
  have k3 := k2 _ _ _ hK3 _ _ _ _ _ h'
  exact k3
theorem sx_sci (X : ax_X D p s m args meth c own cc nL) {M : ax_M} {nA idx : Nat} (hM : ax_MS M nA) (hl : ax_ML own idx M) (hRM : ax_RM R M) (h0 : ax_cs M = 0 ∧ ax_sl M = 0) (hd : decode cc pc = .ok (.invokestatic idx, 3)) (k2 : (∀ ls st C, K ls st S C → ax_Z p l e R s m args below meth c D nL sl0 Q (pc + 3) ls st S C)) : ∀ ls st C, nA ≤ st.length → ax_sci l D M nA K ls st S C → ax_Z p l e R s m args below meth c D nL sl0 Q pc ls st S C := fun ls st C hlen hK H lsA locs cells slots h => by
  obtain ⟨hr, hK2⟩ := ax_ok_e hK
  have hroom : cells + ax_cs M ≤ R.cells ∧ slots + ax_sl M ≤ R.slots := by have := h.2.2.2.2.2; omega
  rw [ax_stk (n := nA) (st := st)]
  refine ax_cont h hroom (ax_callS X hM hl hRM hd h (by rw [ax_av_len nA [] st hlen]; simp) (Nat.le_of_ble_eq_true hr) hroom hK2) ?_
  rintro r S' C' H' locs' ⟨x, rfl, rfl, hK3⟩ h'
  have k3 := k2 _ _ _ hK3 _ _ _ _ _ h'
  exact k3
def ax_vcl (l : Launch) (D : ax_D) (M : ax_M) (nA : Nat) (K : ax_K) : ax_K := fun ls st S C => ax_pr (ax_av nA [] st).2 fun o t => ax_ok (Nat.ble (ax_rs t) 8) (ax_CL l D M (ax_r o :: (ax_av nA [] st).1) S C (fun x C' => K ls (ax_l x :: t) S C'))
def ax_scl (l : Launch) (D : ax_D) (M : ax_M) (nA : Nat) (K : ax_K) : ax_K := fun ls st S C => ax_ok (Nat.ble (ax_rs (ax_av nA [] st).2) 8) (ax_CL l D M (ax_av nA [] st).1 S C (fun x C' => K ls (ax_l x :: (ax_av nA [] st).2) S C'))
theorem sx_vcl (X : ax_X D p s m args meth c own cc nL) {M : ax_M} {nA idx : Nat} (hM : ax_MV M nA) (hl : ax_ML own idx M) (hRM : ax_RM R M) (h0 : ax_cs M = 0 ∧ ax_sl M = 0) (hd : decode cc pc = .ok (.invokevirtual idx, 3)) (k2 : (∀ ls st C, K ls st S C → ax_Z p l e R s m args below meth c D nL sl0 Q (pc + 3) ls st S C)) : ∀ ls st C, nA ≤ st.length → ax_vcl l D M nA K ls st S C → ax_Z p l e R s m args below meth c D nL sl0 Q pc ls st S C := fun ls st C hlen hK H lsA locs cells slots h => by
  obtain ⟨o, t, e1, hK1⟩ := ax_pr_e hK
  obtain ⟨hr, hK2⟩ := ax_ok_e hK1
  have hk : M.2.2.2.2.2 ≠ 0 := by obtain ⟨-, -, -, ci, T, -, q⟩ := hM; omega
  obtain ⟨b, t', e2, e3⟩ := hK2.1 hk
  cases e2
  have hroom : cells + ax_cs M ≤ R.cells ∧ slots + ax_sl M ≤ R.slots := by have := h.2.2.2.2.2; omega
  rw [ax_stk (n := nA) (st := st), e1]
  refine ax_cont h hroom (ax_callV X hM hl hRM hd h (by rw [ax_av_len nA [] st hlen]; simp) (Nat.le_of_ble_eq_true hr) hroom hK2) ?_
  rintro r S' C' H' locs' ⟨x, rfl, rfl, hK3⟩ h'
  have k3 := k2 _ _ _ hK3 _ _ _ _ _ h'
  exact k3
theorem sx_scl (X : ax_X D p s m args meth c own cc nL) {M : ax_M} {nA idx : Nat} (hM : ax_MS M nA) (hl : ax_ML own idx M) (hRM : ax_RM R M) (h0 : ax_cs M = 0 ∧ ax_sl M = 0) (hd : decode cc pc = .ok (.invokestatic idx, 3)) (k2 : (∀ ls st C, K ls st S C → ax_Z p l e R s m args below meth c D nL sl0 Q (pc + 3) ls st S C)) : ∀ ls st C, nA ≤ st.length → ax_scl l D M nA K ls st S C → ax_Z p l e R s m args below meth c D nL sl0 Q pc ls st S C := fun ls st C hlen hK H lsA locs cells slots h => by
  obtain ⟨hr, hK2⟩ := ax_ok_e hK
  have hroom : cells + ax_cs M ≤ R.cells ∧ slots + ax_sl M ≤ R.slots := by have := h.2.2.2.2.2; omega
  rw [ax_stk (n := nA) (st := st)]
  refine ax_cont h hroom (ax_callS X hM hl hRM hd h (by rw [ax_av_len nA [] st hlen]; simp) (Nat.le_of_ble_eq_true hr) hroom hK2) ?_
  rintro r S' C' H' locs' ⟨x, rfl, rfl, hK3⟩ h'
  have k3 := k2 _ _ _ hK3 _ _ _ _ _ h'
  exact k3
def ax_vcr (l : Launch) (D : ax_D) (M : ax_M) (nA : Nat) (K : ax_K) : ax_K := fun ls st S C => ax_pr (ax_av nA [] st).2 fun o t => ax_ok (Nat.ble (ax_rs t) 8) (ax_CR l D M (ax_r o :: (ax_av nA [] st).1) S C (fun x C' => K ls (ax_r x :: t) S C'))
def ax_scr (l : Launch) (D : ax_D) (M : ax_M) (nA : Nat) (K : ax_K) : ax_K := fun ls st S C => ax_ok (Nat.ble (ax_rs (ax_av nA [] st).2) 8) (ax_CR l D M (ax_av nA [] st).1 S C (fun x C' => K ls (ax_r x :: (ax_av nA [] st).2) S C'))
theorem sx_vcr (X : ax_X D p s m args meth c own cc nL) {M : ax_M} {nA idx : Nat} (hM : ax_MV M nA) (hl : ax_ML own idx M) (hRM : ax_RM R M) (h0 : ax_cs M = 0 ∧ ax_sl M = 0) (hd : decode cc pc = .ok (.invokevirtual idx, 3)) (k2 : (∀ ls st C, K ls st S C → ax_Z p l e R s m args below meth c D nL sl0 Q (pc + 3) ls st S C)) : ∀ ls st C, nA ≤ st.length → ax_vcr l D M nA K ls st S C → ax_Z p l e R s m args below meth c D nL sl0 Q pc ls st S C := fun ls st C hlen hK H lsA locs cells slots h => by
  obtain ⟨o, t, e1, hK1⟩ := ax_pr_e hK
  obtain ⟨hr, hK2⟩ := ax_ok_e hK1
  have hk : M.2.2.2.2.2 ≠ 0 := by obtain ⟨-, -, -, ci, T, -, q⟩ := hM; omega
  obtain ⟨b, t', e2, e3⟩ := hK2.1 hk
  cases e2
  have hroom : cells + ax_cs M ≤ R.cells ∧ slots + ax_sl M ≤ R.slots := by have := h.2.2.2.2.2; omega
  rw [ax_stk (n := nA) (st := st), e1]
  refine ax_cont h hroom (ax_callV X hM hl hRM hd h (by rw [ax_av_len nA [] st hlen]; simp) (Nat.le_of_ble_eq_true hr) hroom hK2) ?_
  rintro r S' C' H' locs' ⟨x, rfl, rfl, hK3⟩ h'
  have k3 := k2 _ _ _ hK3 _ _ _ _ _ h'
  exact k3
theorem sx_scr (X : ax_X D p s m args meth c own cc nL) {M : ax_M} {nA idx : Nat} (hM : ax_MS M nA) (hl : ax_ML own idx M) (hRM : ax_RM R M) (h0 : ax_cs M = 0 ∧ ax_sl M = 0) (hd : decode cc pc = .ok (.invokestatic idx, 3)) (k2 : (∀ ls st C, K ls st S C → ax_Z p l e R s m args below meth c D nL sl0 Q (pc + 3) ls st S C)) : ∀ ls st C, nA ≤ st.length → ax_scr l D M nA K ls st S C → ax_Z p l e R s m args below meth c D nL sl0 Q pc ls st S C := fun ls st C hlen hK H lsA locs cells slots h => by
  obtain ⟨hr, hK2⟩ := ax_ok_e hK
  have hroom : cells + ax_cs M ≤ R.cells ∧ slots + ax_sl M ≤ R.slots := by have := h.2.2.2.2.2; omega
  rw [ax_stk (n := nA) (st := st)]
  refine ax_cont h hroom (ax_callS X hM hl hRM hd h (by rw [ax_av_len nA [] st hlen]; simp) (Nat.le_of_ble_eq_true hr) hroom hK2) ?_
  rintro r S' C' H' locs' ⟨x, rfl, rfl, hK3⟩ h'
  have k3 := k2 _ _ _ hK3 _ _ _ _ _ h'
  exact k3
def ax_vcv (l : Launch) (D : ax_D) (M : ax_M) (nA : Nat) (K : ax_K) : ax_K := fun ls st S C => ax_pr (ax_av nA [] st).2 fun o t => ax_ok (Nat.ble (ax_rs t) 8) (ax_CV l D M (ax_r o :: (ax_av nA [] st).1) S C (fun C' => K ls (t) S C'))
def ax_scv (l : Launch) (D : ax_D) (M : ax_M) (nA : Nat) (K : ax_K) : ax_K := fun ls st S C => ax_ok (Nat.ble (ax_rs (ax_av nA [] st).2) 8) (ax_CV l D M (ax_av nA [] st).1 S C (fun C' => K ls ((ax_av nA [] st).2) S C'))
theorem sx_vcv (X : ax_X D p s m args meth c own cc nL) {M : ax_M} {nA idx : Nat} (hM : ax_MV M nA) (hl : ax_ML own idx M) (hRM : ax_RM R M) (h0 : ax_cs M = 0 ∧ ax_sl M = 0) (hd : decode cc pc = .ok (.invokevirtual idx, 3)) (k2 : (∀ ls st C, K ls st S C → ax_Z p l e R s m args below meth c D nL sl0 Q (pc + 3) ls st S C)) : ∀ ls st C, nA ≤ st.length → ax_vcv l D M nA K ls st S C → ax_Z p l e R s m args below meth c D nL sl0 Q pc ls st S C := fun ls st C hlen hK H lsA locs cells slots h => by
  obtain ⟨o, t, e1, hK1⟩ := ax_pr_e hK
  obtain ⟨hr, hK2⟩ := ax_ok_e hK1
  have hk : M.2.2.2.2.2 ≠ 0 := by obtain ⟨-, -, -, ci, T, -, q⟩ := hM; omega
  obtain ⟨b, t', e2, e3⟩ := hK2.1 hk
  cases e2
  have hroom : cells + ax_cs M ≤ R.cells ∧ slots + ax_sl M ≤ R.slots := by have := h.2.2.2.2.2; omega
  rw [ax_stk (n := nA) (st := st), e1]
  refine ax_cont h hroom (ax_callV X hM hl hRM hd h (by rw [ax_av_len nA [] st hlen]; simp) (Nat.le_of_ble_eq_true hr) hroom hK2) ?_
  rintro r S' C' H' locs' ⟨rfl, rfl, hK3⟩ h'
  have k3 := k2 _ _ _ hK3 _ _ _ _ _ h'
  exact k3
theorem sx_scv (X : ax_X D p s m args meth c own cc nL) {M : ax_M} {nA idx : Nat} (hM : ax_MS M nA) (hl : ax_ML own idx M) (hRM : ax_RM R M) (h0 : ax_cs M = 0 ∧ ax_sl M = 0) (hd : decode cc pc = .ok (.invokestatic idx, 3)) (k2 : (∀ ls st C, K ls st S C → ax_Z p l e R s m args below meth c D nL sl0 Q (pc + 3) ls st S C)) : ∀ ls st C, nA ≤ st.length → ax_scv l D M nA K ls st S C → ax_Z p l e R s m args below meth c D nL sl0 Q pc ls st S C := fun ls st C hlen hK H lsA locs cells slots h => by
  obtain ⟨hr, hK2⟩ := ax_ok_e hK
  have hroom : cells + ax_cs M ≤ R.cells ∧ slots + ax_sl M ≤ R.slots := by have := h.2.2.2.2.2; omega
  rw [ax_stk (n := nA) (st := st)]
  refine ax_cont h hroom (ax_callS X hM hl hRM hd h (by rw [ax_av_len nA [] st hlen]; simp) (Nat.le_of_ble_eq_true hr) hroom hK2) ?_
  rintro r S' C' H' locs' ⟨rfl, rfl, hK3⟩ h'
  have k3 := k2 _ _ _ hK3 _ _ _ _ _ h'
  exact k3
/-- a constructor's call: the cells that it makes count -/
def ax_vca (l : Launch) (D : ax_D) (M : ax_M) (Z : Nat × Nat) (K : ax_K) : ax_K := fun ls st S C => ax_pr st fun o t => ax_sm o fun b => ax_ok (Nat.ble (ax_rs t) 8) (S.2.2.1 + ax_cs M ≤ Z.1 ∧ S.2.2.2 + ax_sl M ≤ Z.2 ∧ ax_CA l D M [ax_r (some b)] S C (fun S' C' => K ls t S' C'))
theorem sx_vca (X : ax_X D p s m args meth c own cc nL) {M : ax_M} {idx : Nat} {Z : Nat × Nat} (hZ : Z.1 ≤ s.heap.size + R.cells ∧ Z.2 ≤ sl0 + R.slots) (hM : ax_MI M 0) (hl : ax_ML own idx M) (hRM : ax_RM R M) (hd : decode cc pc = .ok (.invokespecial idx, 3)) (k2 : (∀ ls st S C, K ls st S C → ax_Z p l e R s m args below meth c D nL sl0 Q (pc + 3) ls st S C)) : (∀ ls st C, ax_vca l D M Z K ls st S C → ax_Z p l e R s m args below meth c D nL sl0 Q (pc) ls st S C) := fun ls st C hK H lsA locs cells slots h => by
  obtain ⟨o, t, rfl, hK1⟩ := ax_pr_e hK
  obtain ⟨b, rfl, hK2⟩ := ax_sm_e hK1
  obtain ⟨hr, hz1, hz2, hK3⟩ := ax_ok_e hK2
  have hroom : cells + ax_cs M ≤ R.cells ∧ slots + ax_sl M ≤ R.slots := by have h1 := h.2.2.2.1; have h2 := h.2.2.2.2.1; omega
  refine ax_cont h hroom (ax_callI X (As := []) hM hl hRM hd h rfl (Nat.le_of_ble_eq_true hr) hroom hK3) ?_
  rintro r S' C' H' locs' ⟨rfl, hK4⟩ h'
  have k3 := k2 _ _ _ _ hK4 _ _ _ _ _ h'
  exact k3
def ax_nS (S : ax_S) (kd n sl : Nat) : ax_S := (va_up S.1 S.2.2.1 kd, va_up S.2.1 S.2.2.1 n, S.2.2.1 + 1, S.2.2.2 + sl)
def ax_nC (C : ax_C) (a : Nat) : ax_C := (va_up C.1 a (fun _ => 0), va_up C.2.1 a (fun _ => 0), va_up C.2.2 a (fun _ => none))
theorem ax_R_push {C : ax_C} {H H' : Heap} {kd n sl : Nat} (h : ax_R D S C H) (hz : H'.size = H.size + 1) (ho : ∀ q, q < H.size → H'[q]? = H[q]?) (he : va_at (D.1, D.2.1) vwCl (H.size, ax_f D (ax_nS S kd n sl) (ax_nC C H.size) H.size) H') : ax_R D (ax_nS S kd n sl) (ax_nC C H.size) H' := by
  obtain ⟨h1, h2, h3, h4⟩ := h
  have hf : ∀ b, b ≠ H.size → ax_f D (ax_nS S kd n sl) (ax_nC C H.size) b = ax_f D S C b := by
    intro b hb
    have hv : ∀ ci k, ax_v ci (ax_nC C H.size) b k = ax_v ci C b k := fun ci k => by simp [ax_v, ax_nC, va_up, hb]
    have hl : ∀ ci, ax_fl ci (ax_nC C H.size) b = ax_fl ci C b := fun ci => by
      unfold ax_fl
      rw [show ax_v ci (ax_nC C H.size) b = ax_v ci C b from funext (hv ci)]
    have hb2 : b ≠ S.2.2.1 := by rw [← h1]; exact hb
    simp only [ax_f, hl]
    simp [ax_nS, ax_nC, va_up, hb, hb2]
  refine ⟨by simp [ax_nS]; omega, by simp [ax_nS]; omega, ?_, fun a ha => ?_⟩
  · have hw : ax_w D (ax_nS S kd n sl) (ax_nC C H.size) = ax_w D S C ++ [(H.size, ax_f D (ax_nS S kd n sl) (ax_nC C H.size) H.size)] := by
      have hr : ax_ad D (ax_nS S kd n sl) = ax_ad D S ++ [H.size] := by
        have e1 : (S.2.2.1 + 1) - D.2.2.2.1 = (S.2.2.1 - D.2.2.2.1) + 1 := by omega
        show List.range' D.2.2.2.1 ((S.2.2.1 + 1) - D.2.2.2.1) = _
        rw [e1, List.range'_concat, h1]
        simp only [ax_ad, Nat.one_mul]
        congr 2
        omega
      unfold ax_w va_pl
      rw [hr, List.map_append]
      congr 1
      apply List.map_congr_left
      intro b hb
      have hb2 : b < S.2.2.1 := by
        simp only [ax_ad, List.mem_range'_1] at hb
        omega
      rw [hf b (by omega)]
    rw [hw]
    refine (h3.kept fun k q hk => ho q.1 (h3 k q hk).lt).app fun k q hk => ?_
    have hz : k < 1 := (List.getElem?_eq_some_iff.mp hk).1
    rw [show k = 0 by omega] at hk
    cases hk
    exact he
  · by_cases hb : a = S.2.2.1
    · simp [ax_nS]; omega
    · have : S.1 a ≠ 0 := by simpa [ax_nS, va_up, hb] using ha
      have := h4 a this
      simp [ax_nS]; omega
theorem ax_H.push {ls : ax_L} {C : ax_C} {H H' : Heap} {lsA : Array Slot} {locs : List Loc} {cells slots kd n sl : Nat} (h : ax_H D s R nL sl0 ls S C H lsA locs cells slots) (hz : H'.size = H.size + 1) (ho : ∀ q, q < H.size → H'[q]? = H[q]?) (he : va_at (D.1, D.2.1) vwCl (H.size, ax_f D (ax_nS S kd n sl) (ax_nC C H.size) H.size) H') (hc : cells + 1 ≤ R.cells) (hs : slots + sl ≤ R.slots) : ax_H D s R nL sl0 ls (ax_nS S kd n sl) (ax_nC C H.size) H' lsA locs (cells + 1) (slots + sl) := by
  have hS := h.2.2.1
  have h1 := h.2.2.2.1
  have h2 := h.2.2.2.2.1
  exact ⟨ax_R_push h.1 hz ho he, h.2.1, ⟨by have := hS.1; omega, fun q g1 g2 => (ho q (Nat.lt_of_lt_of_le g1 hS.1)).trans (hS.2.1 q g1 g2), hS.2.2⟩, by simp [ax_nS]; omega, by simp [ax_nS]; omega, hc, hs⟩
def ax_new (kc n : Nat) (Z : Nat × Nat) (K : ax_K) : ax_K := fun ls st S C => S.2.2.1 + 1 ≤ Z.1 ∧ S.2.2.2 + n ≤ Z.2 ∧ K ls (ax_r (some S.2.2.1) :: st) (ax_nS S kc 0 n) (ax_nC C S.2.2.1)
theorem ax_tyk (ci j : Nat) : ax_ty ci j = .int ∨ ax_ty ci j = .boolean ∨ ax_ty ci j = .long ∨ (∃ n, ax_ty ci j = .object n) ∨ ∃ t, ax_ty ci j = .array t := by
  unfold ax_ty
  split <;> (first | unfold tyX0 | unfold tyX1 | unfold tyX2 | unfold tyX3 | unfold tyX4 | unfold tyX5 | unfold tyX6 | unfold tyX7 | unfold tyX8) <;> split <;> simp
theorem sx_new (X : ax_X D p s m args meth c own cc nL) {ci kc idx : Nat} {N : String} {T : u_T} {Z : Nat × Nat} (hZ : Z.1 ≤ s.heap.size + R.cells ∧ Z.2 ≤ sl0 + R.slots) (hF : ax_CF ci N T) (hkc : kc = ci + 1) (h1 : Cond.classLink own idx N ∈ ax_big) (h2 : Cond.instantiable N (ax_n ci) ∈ ax_big) (h3 : Cond.initialized N ∈ ax_big) (hd : decode cc pc = .ok (.new idx, 3)) (k2 : (∀ ls st S C, K ls st S C → ax_Z p l e R s m args below meth c D nL sl0 Q (pc + 3) ls st S C)) : (∀ ls st C, ax_new kc (ax_n ci) Z K ls st S C → ax_Z p l e R s m args below meth c D nL sl0 Q (pc) ls st S C) := fun ls st C hK H lsA locs cells slots h => by
  subst hkc
  obtain ⟨hz1, hz2, hK1⟩ := hK
  obtain ⟨hc, hin, hty, hnm, h9⟩ := hF
  have hts := X.2.2.2.2.1
  have hKn := X.2.2.2.2.2.2.1.1.1 ci _ hc
  have e1 := h.2.2.2.1
  have e2 := h.2.2.2.2.1
  refine W.newcK X.1 X.2.1 X.2.2.2.1 (hts _ h1) (hts _ h2) (hts _ h3) rfl hd (by omega) (by omega) hKn.2.1 rfl fun H1 kC hkC q1 q2 q3 => ?_
  have hsz : H.size = S.2.2.1 := h.1.1
  have h' := h.push (kd := ci + 1) (n := 0) (sl := ax_n ci) q2 q3 (by
    rw [ax_f_obj (by simp [ax_nS, va_up, hsz]) h9]
    refine ⟨_, hc, (u_born (ax_ty ci) hts hin hKn hkC q1 hty).to fun j hj => ?_⟩
    show defaultValue (ax_ty ci j) = vp_V (ax_fl ci (ax_nC C H.size) H.size) j
    have e3 : vp_V (ax_fl ci (ax_nC C H.size) H.size) j = ax_v ci (ax_nC C H.size) H.size j := by
      simp [vp_V, ax_fl_get hj]
    rw [e3]
    have key : ∀ ty : FieldType, (ty = .int ∨ ty = .boolean ∨ ty = .long ∨ (∃ n, ty = .object n) ∨ ∃ t, ty = .array t) → defaultValue ty = (if ax_fk ty = 0 then Value.int 0 else if ax_fk ty = 1 then .long 0 else .null) := by
      intro ty q
      rcases q with rfl | rfl | rfl | ⟨n, rfl⟩ | ⟨t, rfl⟩ <;> rfl
    rw [key _ (ax_tyk ci j)]
    simp only [ax_v, ax_nC, va_up_self, va_rf]) (by omega) (by omega)
  have k3 := k2 _ _ _ _ hK1
  rw [hsz] at h' ⊢
  exact k3 _ _ _ _ _ h'
theorem ax_RA_name {cA : ClassId} {ty : FieldType} (h : va_RA s cA ty) : s.vm.findClass ("[" ++ ty.toString) = some cA := by
  cases ty with
  | object C => obtain ⟨_, _, -, -, -, q⟩ := h; exact q
  | _ => exact h
def ax_newa (kd : Nat) (Z : Nat × Nat) (K : ax_K) : ax_K := fun ls st S C => ax_pi st fun n t => ¬ n < 0 ∧ n.toNatClampNeg ≤ 100000 ∧ S.2.2.1 + 1 ≤ Z.1 ∧ S.2.2.2 + n.toNatClampNeg ≤ Z.2 ∧ K ls (ax_r (some S.2.2.1) :: t) (ax_nS S kd n.toNatClampNeg n.toNatClampNeg) (ax_nC C S.2.2.1)
theorem sx_newa (X : ax_X D p s m args meth c own cc nL) {t kd : Nat} {atype : ArrayType} {Z : Nat × Nat} (hZ : Z.1 ≤ s.heap.size + R.cells ∧ Z.2 ≤ sl0 + R.slots) (hkd : kd = t + 11) (ht : t < 3) (hat : newarray.typeOf atype = ax_aty t) (h1 : Cond.arrayClass (ax_aty t) ∈ ax_big) (hd : decode cc pc = .ok (.newarray atype, 2)) (k2 : (∀ ls st S C, K ls st S C → ax_Z p l e R s m args below meth c D nL sl0 Q (pc + 2) ls st S C)) : (∀ ls st C, ax_newa kd Z K ls st S C → ax_Z p l e R s m args below meth c D nL sl0 Q (pc) ls st S C) := fun ls st C hK H lsA locs cells slots h => by
  subst hkd
  obtain ⟨n, st, rfl, hn, hN, hz1, hz2, hK1⟩ := ax_pi_e hK
  have hts := X.2.2.2.2.1
  have e1 := h.2.2.2.1
  have e2 := h.2.2.2.2.1
  have hsz : H.size = S.2.2.1 := h.1.1
  have hb4 : componentBytes (ax_aty t) ≤ 8 := by
    match t, ht with
    | 0, _ => decide
    | 1, _ => decide
    | 2, _ => decide
  refine va_newaK X.1 X.2.1 (atype := atype) (by rw [hat]; exact hts _ h1) rfl hd rfl hn rfl (by rw [hat]; have := Nat.mul_le_mul hN hb4; omega) (by omega) (by omega) rfl fun H1 cA q1 q2 q3 q4 q5 => ?_
  have hcA : cA = D.2.2.1 t := by
    have := ax_RA_name (X.2.2.2.2.2.2.1.1.2 t _ (ax_tys_at (by omega))).2
    rw [hat] at q5
    exact Option.some.inj (q5.symm.trans this)
  have h' := h.push (kd := t + 11) (n := n.toNatClampNeg) (sl := n.toNatClampNeg) q2 q3 (by
    rw [ax_f_arr (t := t) (by simp [ax_nS, va_up, hsz]) ht]
    show H1[H.size]? = some (vp_cell _ _)
    rw [q1, vp_cell_i, hcA, hat]
    have e3 : defaultValue (ax_aty t) = .int 0 := by
      match t, ht with
      | 0, _ => rfl
      | 1, _ => rfl
      | 2, _ => rfl
    have e4 : (ax_nS S (t + 11) n.toNatClampNeg n.toNatClampNeg).2.1 H.size = n.toNatClampNeg := by simp [ax_nS, va_up, hsz]
    rw [e3, e4]
    simp [ax_nC, va_up]) (by omega) (by omega)
  have k3 := k2 _ _ _ _ hK1
  rw [hsz] at h' ⊢
  exact k3 _ _ _ _ _ h'
theorem sx_newq (X : ax_X D p s m args meth c own cc nL) {t kd idx : Nat} {N : String} {Z : Nat × Nat} (hZ : Z.1 ≤ s.heap.size + R.cells ∧ Z.2 ≤ sl0 + R.slots) (hkd : kd = t + 11) (ht : 3 ≤ t ∧ t < 5) (hat : ax_aty t = .object N) (hAO : ∀ U, ax_U D U → va_AO N U) (h1 : Cond.classLink own idx N ∈ ax_big) (hd : decode cc pc = .ok (.anewarray idx, 3)) (k2 : (∀ ls st S C, K ls st S C → ax_Z p l e R s m args below meth c D nL sl0 Q (pc + 3) ls st S C)) : (∀ ls st C, ax_newa kd Z K ls st S C → ax_Z p l e R s m args below meth c D nL sl0 Q (pc) ls st S C) := fun ls st C hK H lsA locs cells slots h => by
  subst hkd
  obtain ⟨n, st, rfl, hn, hN, hz1, hz2, hK1⟩ := ax_pi_e hK
  have hts := X.2.2.2.2.1
  have e1 := h.2.2.2.1
  have e2 := h.2.2.2.2.1
  have hsz : H.size = S.2.2.1 := h.1.1
  refine W.anew X.1 X.2.1 X.2.2.2.1 (hts _ h1) (va_AO.use (hAO _ X.2.2.2.2.2.2.1)) rfl hd rfl hn (by omega) (by omega) (by omega) fun cA kA comp f1 f2 f3 f4 => ?_
  have hcA : cA = D.2.2.1 t := by
    have := ax_RA_name (X.2.2.2.2.2.2.1.1.2 t _ (ax_tys_at (by omega))).2
    rw [hat] at this
    exact Option.some.inj (f1.symm.trans this)
  have h' := h.push (H' := H.push ({ cls := cA, slots := Array.replicate n.toNatClampNeg .null, vm := .none } : Cell)) (kd := t + 11) (n := n.toNatClampNeg) (sl := n.toNatClampNeg) (by simp) (fun q hq => by rw [Array.getElem?_push, if_neg (Nat.ne_of_lt hq)]) (by
    rw [ax_f_arq (t := t) (by simp [ax_nS, va_up, hsz]) ht.1]
    show (H.push _)[H.size]? = some (vp_cell _ _)
    have e4 : (ax_nS S (t + 11) n.toNatClampNeg n.toNatClampNeg).2.1 H.size = n.toNatClampNeg := by simp [ax_nS, va_up, hsz]
    rw [vp_cell_q, e4, Array.getElem?_push_size, ← hcA, arrV_new]
    simp [ax_nC, va_up, va_rf]) (by omega) (by omega)
  have k3 := k2 _ _ _ _ hK1
  rw [hsz] at h'
  show W p l e R s m args below meth c _ locs _ _ Q (F0 m (pc + 3) lsA (.ref H.size :: st.map ax_cv))
  rw [hsz]
  exact k3 _ _ _ _ _ h'
def ax_iret (P : Int32 → ax_C → Prop) : ax_K := fun _ st _ C => ax_pi st fun x t => ax_p0 t (P x C)
def ax_zret (P : Int32 → ax_C → Prop) : ax_K := fun _ st _ C => ax_pi st fun x t => ax_p0 t ((x = 0 ∨ x = 1) ∧ P x C)
def ax_lret (P : Int64 → ax_C → Prop) : ax_K := fun _ st _ C => ax_pl st fun x t => ax_p0 t (P x C)
def ax_aret (P : Option Nat → ax_C → Prop) : ax_K := fun _ st _ C => ax_pr st fun x t => ax_p0 t (P x C)
def ax_vret (P : ax_C → Prop) : ax_K := fun _ st _ C => ax_p0 st (P C)
def ax_nret (Z : Nat × Nat) (P : ax_S → ax_C → Prop) : ax_K := fun _ st S C => ax_p0 st (S.2.2.1 = Z.1 ∧ S.2.2.2 = Z.2 ∧ P S C)
/-- a literal 0 or 1 that is answered (by way of a join) -/
def ax_icz (v : Int32) (P : Int32 → ax_C → Prop) : ax_K := fun _ st _ C => ax_p0 st (P v C)
theorem sx_iret (X : ax_X D p s m args meth c own cc nL) {P : Int32 → ax_C → Prop} (hR : R.cells = 0 ∧ R.slots = 0) (hr : meth.sig.returnType = some .int) (hd : decode cc pc = .ok (.ireturn, 1)) : (∀ ls st C, ax_iret P ls st S C → ax_Z p l e R s m args below meth c D nL sl0 (MQ below (ax_Q D S 0 0 (fun r S' C' => ∃ x, r = some (ax_i x) ∧ S' = S ∧ P x C')) args s 0 0 (ax_A D)) (pc) ls st S C) := fun ls st C hK H lsA locs cells slots h => by
  obtain ⟨x, t, rfl, hK1⟩ := ax_pi_e hK
  obtain ⟨rfl, hK2⟩ := ax_p0_e hK1
  have hc : cells = 0 := by have := h.2.2.2.2.2; omega
  have hs : slots = 0 := by have := h.2.2.2.2.2; omega
  subst hc
  subst hs
  exact W.iret X.1 X.2.1 hr (fun t ht _ => ⟨⟨some (ax_i x), S, C, rfl, ⟨x, rfl, rfl, hK2⟩, by rw [ht]; exact h.1, rfl, rfl⟩, h.2.2.1.F ht⟩) h.2.2.1.2.2 hd X.2.2.2.2.2.1
theorem ax_zr (X : ax_X D p s m args meth c own cc nL) {P : Int32 → ax_C → Prop} (hR : R.cells = 0 ∧ R.slots = 0) (hr : meth.sig.returnType = some .boolean) (hd : decode cc pc = .ok (.ireturn, 1)) {x : Int32} (hx : x = 0 ∨ x = 1) : ∀ ls C, P x C → ax_Z p l e R s m args below meth c D nL sl0 (MQ below (ax_Q D S 0 0 (fun r S' C' => ∃ x, r = some (ax_i x) ∧ S' = S ∧ P x C')) args s 0 0 (ax_A D)) pc ls [ax_i x] S C := fun ls C hK2 H lsA locs cells slots h => by
  have hc : cells = 0 := by have := h.2.2.2.2.2; omega
  have hs : slots = 0 := by have := h.2.2.2.2.2; omega
  subst hc
  subst hs
  exact W.zret X.1 X.2.1 hr (by rcases hx with rfl | rfl <;> rfl) (fun t ht _ => ⟨⟨some (ax_i x), S, C, rfl, ⟨x, rfl, rfl, hK2⟩, by rw [ht]; exact h.1, rfl, rfl⟩, h.2.2.1.F ht⟩) h.2.2.1.2.2 hd X.2.2.2.2.2.1
theorem sx_zret (X : ax_X D p s m args meth c own cc nL) {P : Int32 → ax_C → Prop} (hR : R.cells = 0 ∧ R.slots = 0) (hr : meth.sig.returnType = some .boolean) (hd : decode cc pc = .ok (.ireturn, 1)) : (∀ ls st C, ax_zret P ls st S C → ax_Z p l e R s m args below meth c D nL sl0 (MQ below (ax_Q D S 0 0 (fun r S' C' => ∃ x, r = some (ax_i x) ∧ S' = S ∧ P x C')) args s 0 0 (ax_A D)) (pc) ls st S C) := fun ls st C hK => by
  obtain ⟨x, t, rfl, hK1⟩ := ax_pi_e hK
  obtain ⟨rfl, hx, hK2⟩ := ax_p0_e hK1
  exact ax_zr X hR hr hd hx ls C hK2
theorem sx_icz (X : ax_X D p s m args meth c own cc nL) {P : Int32 → ax_C → Prop} (hR : R.cells = 0 ∧ R.slots = 0) (hr : meth.sig.returnType = some .boolean) {n : Int} {v : Int32} (hv : Int32.ofInt n = v) (h01 : v = 0 ∨ v = 1) (hd0 : decode cc pc = .ok (.iconst n, 1)) (hd : decode cc (pc + 1) = .ok (.ireturn, 1)) : (∀ ls st C, ax_icz v P ls st S C → ax_Z p l e R s m args below meth c D nL sl0 (MQ below (ax_Q D S 0 0 (fun r S' C' => ∃ x, r = some (ax_i x) ∧ S' = S ∧ P x C')) args s 0 0 (ax_A D)) (pc) ls st S C) := fun ls st C hK => by
  obtain ⟨rfl, hK2⟩ := ax_p0_e hK
  exact fun H lsA locs cells slots h => lv_iconst X.1 X.2.1 hd0 hv (ax_zr X hR hr hd h01 ls C hK2 H lsA locs cells slots h)
theorem sx_iczg (X : ax_X D p s m args meth c own cc nL) {P : Int32 → ax_C → Prop} (hR : R.cells = 0 ∧ R.slots = 0) (hr : meth.sig.returnType = some .boolean) {n off : Int} {tgt : Nat} {v : Int32} (hv : Int32.ofInt n = v) (h01 : v = 0 ∨ v = 1) (hd0 : decode cc pc = .ok (.iconst n, 1)) (hd1 : decode cc (pc + 1) = .ok (.goto off, 3)) (ht : ((pc + 1 : Nat) : Int) + off = (tgt : Int)) (hd : decode cc tgt = .ok (.ireturn, 1)) : (∀ ls st C, ax_icz v P ls st S C → ax_Z p l e R s m args below meth c D nL sl0 (MQ below (ax_Q D S 0 0 (fun r S' C' => ∃ x, r = some (ax_i x) ∧ S' = S ∧ P x C')) args s 0 0 (ax_A D)) (pc) ls st S C) := fun ls st C hK => by
  obtain ⟨rfl, hK2⟩ := ax_p0_e hK
  exact fun H lsA locs cells slots h => lv_iconst X.1 X.2.1 hd0 hv (lv_goto X.1 X.2.1 hd1 ht (ax_zr X hR hr hd h01 ls C hK2 H lsA locs cells slots h))
theorem sx_lret (X : ax_X D p s m args meth c own cc nL) {P : Int64 → ax_C → Prop} (hR : R.cells = 0 ∧ R.slots = 0) (hr : meth.sig.returnType = some .long) (hd : decode cc pc = .ok (.lreturn, 1)) : (∀ ls st C, ax_lret P ls st S C → ax_Z p l e R s m args below meth c D nL sl0 (MQ below (ax_Q D S 0 0 (fun r S' C' => ∃ x, r = some (ax_l x) ∧ S' = S ∧ P x C')) args s 0 0 (ax_A D)) (pc) ls st S C) := fun ls st C hK H lsA locs cells slots h => by
  obtain ⟨x, t, rfl, hK1⟩ := ax_pl_e hK
  obtain ⟨rfl, hK2⟩ := ax_p0_e hK1
  have hc : cells = 0 := by have := h.2.2.2.2.2; omega
  have hs : slots = 0 := by have := h.2.2.2.2.2; omega
  subst hc
  subst hs
  exact W.lret X.1 X.2.1 hr (fun t ht _ => ⟨⟨some (ax_l x), S, C, rfl, ⟨x, rfl, rfl, hK2⟩, by rw [ht]; exact h.1, rfl, rfl⟩, h.2.2.1.F ht⟩) h.2.2.1.2.2 hd X.2.2.2.2.2.1
theorem sx_aret (X : ax_X D p s m args meth c own cc nL) {P : Option Nat → ax_C → Prop} (hR : R.cells = 0 ∧ R.slots = 0) {N : String} (hr : meth.sig.returnType = some (.object N)) (hd : decode cc pc = .ok (.areturn, 1)) : (∀ ls st C, ax_aret P ls st S C → ax_Z p l e R s m args below meth c D nL sl0 (MQ below (ax_Q D S 0 0 (fun r S' C' => ∃ x, r = some (ax_r x) ∧ S' = S ∧ P x C')) args s 0 0 (ax_A D)) (pc) ls st S C) := fun ls st C hK H lsA locs cells slots h => by
  obtain ⟨x, t, rfl, hK1⟩ := ax_pr_e hK
  obtain ⟨rfl, hK2⟩ := ax_p0_e hK1
  have hc : cells = 0 := by have := h.2.2.2.2.2; omega
  have hs : slots = 0 := by have := h.2.2.2.2.2; omega
  subst hc
  subst hs
  exact W.aret X.1 X.2.1 hr (Or.inl ⟨_, rfl⟩) (va_rf_or x) (fun t ht _ => ⟨⟨some (ax_r x), S, C, rfl, ⟨x, rfl, rfl, hK2⟩, by rw [ht]; exact h.1, rfl, rfl⟩, h.2.2.1.F ht⟩) h.2.2.1.2.2 hd X.2.2.2.2.2.1
theorem sx_vret (X : ax_X D p s m args meth c own cc nL) {P : ax_C → Prop} (hR : R.cells = 0 ∧ R.slots = 0) (hr : meth.sig.returnType = none) (hd : decode cc pc = .ok (.return_, 1)) : (∀ ls st C, ax_vret P ls st S C → ax_Z p l e R s m args below meth c D nL sl0 (MQ below (ax_Q D S 0 0 (fun r S' C' => r = none ∧ S' = S ∧ P C')) args s 0 0 (ax_A D)) (pc) ls st S C) := fun ls st C hK H lsA locs cells slots h => by
  obtain ⟨rfl, hK2⟩ := ax_p0_e hK
  have hc : cells = 0 := by have := h.2.2.2.2.2; omega
  have hs : slots = 0 := by have := h.2.2.2.2.2; omega
  subst hc
  subst hs
  exact W.vret X.1 X.2.1 hr (fun t ht _ => ⟨⟨none, S, C, rfl, ⟨rfl, rfl, hK2⟩, by rw [ht]; exact h.1, rfl, rfl⟩, h.2.2.1.F ht⟩) h.2.2.1.2.2 hd X.2.2.2.2.2.1
theorem sx_nret (X : ax_X D p s m args meth c own cc nL) {P : ax_S → ax_C → Prop} {S0 : ax_S} {mc ms : Nat} (hS0 : s.heap.size = S0.2.2.1 ∧ sl0 = S0.2.2.2) (hr : meth.sig.returnType = none) (hd : decode cc pc = .ok (.return_, 1)) : ∀ ls st C, ax_nret (S0.2.2.1 + mc, S0.2.2.2 + ms) P ls st S C → ax_Z p l e R s m args below meth c D nL sl0 (MQ below (ax_Q D S0 mc ms (fun r S' C' => r = none ∧ P S' C')) args s mc ms (ax_A D)) pc ls st S C := fun ls st C hK H lsA locs cells slots h => by
  obtain ⟨rfl, hz1, hz2, hK2⟩ := ax_p0_e hK
  have hc : cells = mc := by have := h.2.2.2.1; simp at hz1; omega
  have hs : slots = ms := by have := h.2.2.2.2.1; simp at hz2; omega
  subst hc
  subst hs
  exact W.vret X.1 X.2.1 hr (fun t ht _ => ⟨⟨none, S, C, rfl, ⟨rfl, hK2⟩, by rw [ht]; exact h.1, hz1, hz2⟩, h.2.2.1.F ht⟩) h.2.2.1.2.2 hd X.2.2.2.2.2.1
end AXC
/-! a method's entry -/
def ax_en : List ax_T → Nat → ax_L
  | [], n => List.replicate n none
  | .inl x :: t, n => some (.inl x) :: ax_en t (n - 1)
  | .inr (.inl x) :: t, n => some (.inr (.inl x)) :: none :: ax_en t (n - 2)
  | .inr (.inr x) :: t, n => some (.inr (.inr x)) :: ax_en t (n - 1)
theorem ax_get_rep : ∀ (n i : Nat), ax_get (List.replicate n none) i = none
  | 0, _ => rfl
  | _ + 1, 0 => rfl
  | n + 1, i + 1 => by simp only [List.replicate_succ, ax_get]; exact ax_get_rep n i
theorem ax_en_get : ∀ (av : List ax_T) (n i k : Nat) (v : ax_T), ax_get (ax_en av n) i = some v → (k + i, ax_cv v) ∈ lv_args k (av.map ax_cv)
  | [], n, i, k, v, h => by rw [ax_en, ax_get_rep] at h; cases h
  | .inl x :: t, n, 0, k, v, h => by
    simp [ax_en, ax_get] at h; subst h
    simp [lv_args, ax_cv]
  | .inl x :: t, n, i + 1, k, v, h => by
    have := ax_en_get t (n - 1) i (k + 1) v (by simpa [ax_en, ax_get] using h)
    have e : (ax_cv (.inl x)).category ≠ 2 := by simp [ax_cv, Value.category]
    simp only [List.map_cons, lv_args, if_neg e]
    rw [show k + (i + 1) = k + 1 + i by omega]
    exact List.mem_cons_of_mem _ this
  | .inr (.inl x) :: t, n, 0, k, v, h => by
    simp [ax_en, ax_get] at h; subst h
    simp [lv_args, ax_cv]
  | .inr (.inl x) :: t, n, 1, k, v, h => by
    simp [ax_en, ax_get] at h
  | .inr (.inl x) :: t, n, i + 2, k, v, h => by
    have := ax_en_get t (n - 2) i (k + 2) v (by simpa [ax_en, ax_get] using h)
    have e : (ax_cv (.inr (.inl x))).category = 2 := by simp [ax_cv, Value.category]
    simp only [List.map_cons, lv_args, if_pos e]
    rw [show k + (i + 2) = k + 2 + i by omega]
    exact List.mem_cons_of_mem _ this
  | .inr (.inr x) :: t, n, 0, k, v, h => by
    simp [ax_en, ax_get] at h; subst h
    simp [lv_args, ax_cv]
  | .inr (.inr x) :: t, n, i + 1, k, v, h => by
    have := ax_en_get t (n - 1) i (k + 1) v (by simpa [ax_en, ax_get] using h)
    have e : (ax_cv (.inr (.inr x))).category ≠ 2 := by cases x <;> simp [ax_cv, va_rf, Value.category]
    simp only [List.map_cons, lv_args, if_neg e]
    rw [show k + (i + 1) = k + 1 + i by omega]
    exact List.mem_cons_of_mem _ this
theorem ax_sl_len : ∀ av : List ax_T, (lg_sl (av.map ax_cv)).length = ax_rs av
  | [] => rfl
  | .inl x :: t => by simp [lg_sl, ax_rs, ax_cv, Value.category, ← ax_sl_len t]; omega
  | .inr (.inl x) :: t => by simp [lg_sl, ax_rs, ax_cv, Value.category, ← ax_sl_len t]; omega
  | .inr (.inr none) :: t => by simp [lg_sl, ax_rs, ax_cv, va_rf, Value.category, ← ax_sl_len t]; omega
  | .inr (.inr (some x)) :: t => by simp [lg_sl, ax_rs, ax_cv, va_rf, Value.category, ← ax_sl_len t]; omega
set_option maxHeartbeats 2000000 in
theorem ax_meth {l : Launch} {D : ax_D} {M : ax_M} {av : List ax_T} {S : ax_S} {C : ax_C} {Post : ax_P} (hpl : plainName M.1.cls = true) (hav : ax_rs av ≤ M.2.2.1) (hrecv : M.2.2.2.2.2 ≠ 0 → ∃ b t, av = ax_r (some b) :: t ∧ S.1 b = M.2.2.2.2.2)
    (body : ∀ (p : Program) (e : Env) (s : State) (m : MethodId) (args : Array Value) (below : List Frame) (meth : Method) (c : Code), ax_X D p s m args meth c M.1.cls M.2.1 M.2.2.1 → meth.sig.returnType = M.2.2.2.1 → meth.name = M.1.name → s.heap.size = S.2.2.1 → ax_Z p l e (ax_rm M) s m args below meth c D M.2.2.1 S.2.2.2 (MQ below (ax_Q D S (ax_cs M) (ax_sl M) Post) args s (ax_cs M) (ax_sl M) (ax_A D)) 0 (ax_en av M.2.2.1) [] S C) : ax_Call l D M av S C Post := by
  refine ⟨hrecv, ?_⟩
  refine Met.ofW (cc := M.2.1) (maxL := M.2.2.1) (ret := M.2.2.2.1) hpl rfl ?_
  intro p e s m args below meth c s₁ B hml hv
  obtain ⟨rfl, hR, hU⟩ := hv
  have hts := atoms_spec (ws := Cond.code M.1 M.2.1 M.2.2.1 M.2.2.2.1 :: ax_big) B.pre
  have hown : s.vm.findClass M.1.cls = some m.cls := findClass_of_methodNamed B.named
  have hin : meth.name = M.1.name := (name_of_methodNamed B.named B.method).1
  have hX : ax_X D p s m (av.map ax_cv).toArray meth c M.1.cls M.2.1 M.2.2.1 := ⟨B.exec, B.bytes, hml, hown, fun w hw => hts w (List.mem_cons_of_mem _ hw), B.notSynchronized, hU, by have := hR.1; have := hR.2.1; omega⟩
  have hl := lv_entry (av.map ax_cv) (n := M.2.2.1) (by rw [ax_sl_len]; exact hav)
  rw [lg_entry_eq]
  generalize (lg_sl (av.map ax_cv) ++ List.replicate (M.2.2.1 - (lg_sl (av.map ax_cv)).length) Slot.unset).toArray = lsA at hl ⊢
  exact body p e s m _ below meth c hX B.returns hin hR.1 s.heap lsA [] 0 0 ⟨hR, ⟨hl.1, hl.2.1, fun i v hv => hl.2.2 _ (by simpa using ax_en_get av M.2.2.1 i 0 v hv)⟩, va_S.rf, by have := hR.1; omega, by omega, Nat.zero_le _, Nat.zero_le _⟩
end
