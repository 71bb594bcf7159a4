-- ===== PART A: goes FIRST, ahead of the names: the tables' words, and 'selects' of the private methods out of them =====
/-- a private method of a class that the tables say can be made, by its rows of tables_1 -/
def lw_okq (q : MethodName × Nat) : Prop := (q.1.cls ≠ "java/lang/invoke/MethodHandle" ∧ q.1.cls ≠ "java/lang/invoke/VarHandle") ∧ Cond.instantiable q.1.cls q.2 ∈ tables_1 ∧ Cond.privateMethod q.1 ∈ tables_1 ∧ Cond.instanceMethod q.1 ∈ tables_1
theorem lw_p0 : lw_okq (⟨"ShaftDiscs", "found", "(I)I"⟩, 14) := ⟨⟨by decide +kernel, by decide +kernel⟩, List.mem_of_getElem? (i := 10) (by decide +kernel), List.mem_of_getElem? (i := 176) (by decide +kernel), List.mem_of_getElem? (i := 177) (by decide +kernel)⟩
theorem lw_p1 : lw_okq (⟨"ShaftDiscs", "clean", "(I)I"⟩, 14) := ⟨⟨by decide +kernel, by decide +kernel⟩, List.mem_of_getElem? (i := 10) (by decide +kernel), List.mem_of_getElem? (i := 181) (by decide +kernel), List.mem_of_getElem? (i := 182) (by decide +kernel)⟩
theorem lw_p2 : lw_okq (⟨"ShaftDiscs", "isMissing", "(I)Z"⟩, 14) := ⟨⟨by decide +kernel, by decide +kernel⟩, List.mem_of_getElem? (i := 10) (by decide +kernel), List.mem_of_getElem? (i := 189) (by decide +kernel), List.mem_of_getElem? (i := 190) (by decide +kernel)⟩
theorem lw_p3 : lw_okq (⟨"ShaftDiscs", "isWithin", "(III)Z"⟩, 14) := ⟨⟨by decide +kernel, by decide +kernel⟩, List.mem_of_getElem? (i := 10) (by decide +kernel), List.mem_of_getElem? (i := 193) (by decide +kernel), List.mem_of_getElem? (i := 194) (by decide +kernel)⟩
theorem lw_p4 : lw_okq (⟨"ShaftDiscs$Reader", "takes", "(I)Z"⟩, 6) := ⟨⟨by decide +kernel, by decide +kernel⟩, List.mem_of_getElem? (i := 20) (by decide +kernel), List.mem_of_getElem? (i := 215) (by decide +kernel), List.mem_of_getElem? (i := 216) (by decide +kernel)⟩
theorem lw_p5 : lw_okq (⟨"ShaftDiscs$Reader", "reads", "(LShaftDiscs$Shaft;)Z"⟩, 6) := ⟨⟨by decide +kernel, by decide +kernel⟩, List.mem_of_getElem? (i := 20) (by decide +kernel), List.mem_of_getElem? (i := 224) (by decide +kernel), List.mem_of_getElem? (i := 225) (by decide +kernel)⟩
theorem lw_p6 : lw_okq (⟨"ShaftDiscs$Reader", "readsLaw", "(LShaftDiscs$Shaft;)Z"⟩, 6) := ⟨⟨by decide +kernel, by decide +kernel⟩, List.mem_of_getElem? (i := 20) (by decide +kernel), List.mem_of_getElem? (i := 228) (by decide +kernel), List.mem_of_getElem? (i := 229) (by decide +kernel)⟩
theorem lw_p7 : lw_okq (⟨"ShaftDiscs$Reader", "readsSign", "(I)Z"⟩, 6) := ⟨⟨by decide +kernel, by decide +kernel⟩, List.mem_of_getElem? (i := 20) (by decide +kernel), List.mem_of_getElem? (i := 232) (by decide +kernel), List.mem_of_getElem? (i := 233) (by decide +kernel)⟩
theorem lw_p8 : lw_okq (⟨"ShaftDiscs$Reader", "byteAtHand", "()I"⟩, 6) := ⟨⟨by decide +kernel, by decide +kernel⟩, List.mem_of_getElem? (i := 20) (by decide +kernel), List.mem_of_getElem? (i := 236) (by decide +kernel), List.mem_of_getElem? (i := 237) (by decide +kernel)⟩
theorem lw_p9 : lw_okq (⟨"ShaftDiscs$Reader", "blames", "(I)Z"⟩, 6) := ⟨⟨by decide +kernel, by decide +kernel⟩, List.mem_of_getElem? (i := 20) (by decide +kernel), List.mem_of_getElem? (i := 240) (by decide +kernel), List.mem_of_getElem? (i := 241) (by decide +kernel)⟩
theorem lw_p10 : lw_okq (⟨"ShaftDiscs$Reader", "readsNumber", "(II)Z"⟩, 6) := ⟨⟨by decide +kernel, by decide +kernel⟩, List.mem_of_getElem? (i := 20) (by decide +kernel), List.mem_of_getElem? (i := 244) (by decide +kernel), List.mem_of_getElem? (i := 245) (by decide +kernel)⟩
theorem lw_p11 : lw_okq (⟨"ShaftDiscs$Reader", "readsDiscs", "(LShaftDiscs$Shaft;)Z"⟩, 6) := ⟨⟨by decide +kernel, by decide +kernel⟩, List.mem_of_getElem? (i := 20) (by decide +kernel), List.mem_of_getElem? (i := 254) (by decide +kernel), List.mem_of_getElem? (i := 255) (by decide +kernel)⟩
theorem lw_p12 : lw_okq (⟨"ShaftDiscs$Reader", "readsNumbers", "(LShaftDiscs$Shaft;I)Z"⟩, 6) := ⟨⟨by decide +kernel, by decide +kernel⟩, List.mem_of_getElem? (i := 20) (by decide +kernel), List.mem_of_getElem? (i := 261) (by decide +kernel), List.mem_of_getElem? (i := 262) (by decide +kernel)⟩
theorem lw_p13 : lw_okq (⟨"ShaftDiscs$Shaft", "takeFrom", "(LShaftDiscs$Shaft;)V"⟩, 3) := ⟨⟨by decide +kernel, by decide +kernel⟩, List.mem_of_getElem? (i := 49) (by decide +kernel), List.mem_of_getElem? (i := 270) (by decide +kernel), List.mem_of_getElem? (i := 271) (by decide +kernel)⟩
theorem lw_p14 : lw_okq (⟨"ShaftDiscs$Acts", "forgetAll", "()V"⟩, 4) := ⟨⟨by decide +kernel, by decide +kernel⟩, List.mem_of_getElem? (i := 75) (by decide +kernel), List.mem_of_getElem? (i := 275) (by decide +kernel), List.mem_of_getElem? (i := 276) (by decide +kernel)⟩
theorem lw_p15 : lw_okq (⟨"ShaftDiscs$Acts", "takeBack", "(LShaftDiscs$Shaft;)Z"⟩, 4) := ⟨⟨by decide +kernel, by decide +kernel⟩, List.mem_of_getElem? (i := 75) (by decide +kernel), List.mem_of_getElem? (i := 287) (by decide +kernel), List.mem_of_getElem? (i := 288) (by decide +kernel)⟩
def lw_privs_1 : List (MethodName × Nat) := [(⟨"ShaftDiscs", "found", "(I)I"⟩, 14), (⟨"ShaftDiscs", "clean", "(I)I"⟩, 14), (⟨"ShaftDiscs", "isMissing", "(I)Z"⟩, 14), (⟨"ShaftDiscs", "isWithin", "(III)Z"⟩, 14), (⟨"ShaftDiscs$Reader", "takes", "(I)Z"⟩, 6), (⟨"ShaftDiscs$Reader", "reads", "(LShaftDiscs$Shaft;)Z"⟩, 6), (⟨"ShaftDiscs$Reader", "readsLaw", "(LShaftDiscs$Shaft;)Z"⟩, 6), (⟨"ShaftDiscs$Reader", "readsSign", "(I)Z"⟩, 6), (⟨"ShaftDiscs$Reader", "byteAtHand", "()I"⟩, 6), (⟨"ShaftDiscs$Reader", "blames", "(I)Z"⟩, 6), (⟨"ShaftDiscs$Reader", "readsNumber", "(II)Z"⟩, 6), (⟨"ShaftDiscs$Reader", "readsDiscs", "(LShaftDiscs$Shaft;)Z"⟩, 6), (⟨"ShaftDiscs$Reader", "readsNumbers", "(LShaftDiscs$Shaft;I)Z"⟩, 6), (⟨"ShaftDiscs$Shaft", "takeFrom", "(LShaftDiscs$Shaft;)V"⟩, 3), (⟨"ShaftDiscs$Acts", "forgetAll", "()V"⟩, 4), (⟨"ShaftDiscs$Acts", "takeBack", "(LShaftDiscs$Shaft;)Z"⟩, 4)]
theorem lw_r1 : ∀ q ∈ lw_privs_1, lw_okq q := List.forall_mem_cons.mpr ⟨lw_p0, List.forall_mem_cons.mpr ⟨lw_p1, List.forall_mem_cons.mpr ⟨lw_p2, List.forall_mem_cons.mpr ⟨lw_p3, List.forall_mem_cons.mpr ⟨lw_p4, List.forall_mem_cons.mpr ⟨lw_p5, List.forall_mem_cons.mpr ⟨lw_p6, List.forall_mem_cons.mpr ⟨lw_p7, List.forall_mem_cons.mpr ⟨lw_p8, List.forall_mem_cons.mpr ⟨lw_p9, List.forall_mem_cons.mpr ⟨lw_p10, List.forall_mem_cons.mpr ⟨lw_p11, List.forall_mem_cons.mpr ⟨lw_p12, List.forall_mem_cons.mpr ⟨lw_p13, List.forall_mem_cons.mpr ⟨lw_p14, List.forall_mem_cons.mpr ⟨lw_p15, fun _ h => absurd h List.not_mem_nil⟩⟩⟩⟩⟩⟩⟩⟩⟩⟩⟩⟩⟩⟩⟩⟩
theorem lw_p16 : lw_okq (⟨"ShaftDiscs$Shaft", "has", "(I)Z"⟩, 3) := ⟨⟨by decide +kernel, by decide +kernel⟩, List.mem_of_getElem? (i := 49) (by decide +kernel), List.mem_of_getElem? (i := 291) (by decide +kernel), List.mem_of_getElem? (i := 292) (by decide +kernel)⟩
theorem lw_p17 : lw_okq (⟨"ShaftDiscs$Shaft", "exchange", "(II)V"⟩, 3) := ⟨⟨by decide +kernel, by decide +kernel⟩, List.mem_of_getElem? (i := 49) (by decide +kernel), List.mem_of_getElem? (i := 295) (by decide +kernel), List.mem_of_getElem? (i := 296) (by decide +kernel)⟩
theorem lw_p18 : lw_okq (⟨"ShaftDiscs", "put", "(III)I"⟩, 14) := ⟨⟨by decide +kernel, by decide +kernel⟩, List.mem_of_getElem? (i := 10) (by decide +kernel), List.mem_of_getElem? (i := 307) (by decide +kernel), List.mem_of_getElem? (i := 308) (by decide +kernel)⟩
theorem lw_p19 : lw_okq (⟨"ShaftDiscs$Acts", "keep", "(III)V"⟩, 4) := ⟨⟨by decide +kernel, by decide +kernel⟩, List.mem_of_getElem? (i := 75) (by decide +kernel), List.mem_of_getElem? (i := 311) (by decide +kernel), List.mem_of_getElem? (i := 312) (by decide +kernel)⟩
theorem lw_p20 : lw_okq (⟨"ShaftDiscs$Acts", "forgetOldest", "()V"⟩, 4) := ⟨⟨by decide +kernel, by decide +kernel⟩, List.mem_of_getElem? (i := 75) (by decide +kernel), List.mem_of_getElem? (i := 315) (by decide +kernel), List.mem_of_getElem? (i := 316) (by decide +kernel)⟩
theorem lw_p21 : lw_okq (⟨"ShaftDiscs$Shaft", "ratioOf", "(I)I"⟩, 3) := ⟨⟨by decide +kernel, by decide +kernel⟩, List.mem_of_getElem? (i := 49) (by decide +kernel), List.mem_of_getElem? (i := 343) (by decide +kernel), List.mem_of_getElem? (i := 344) (by decide +kernel)⟩
theorem lw_p22 : lw_okq (⟨"ShaftDiscs$Shaft", "weightOf", "(I)I"⟩, 3) := ⟨⟨by decide +kernel, by decide +kernel⟩, List.mem_of_getElem? (i := 49) (by decide +kernel), List.mem_of_getElem? (i := 347) (by decide +kernel), List.mem_of_getElem? (i := 348) (by decide +kernel)⟩
theorem lw_p23 : lw_okq (⟨"ShaftDiscs$Shaft", "springOf", "(I)I"⟩, 3) := ⟨⟨by decide +kernel, by decide +kernel⟩, List.mem_of_getElem? (i := 49) (by decide +kernel), List.mem_of_getElem? (i := 352) (by decide +kernel), List.mem_of_getElem? (i := 353) (by decide +kernel)⟩
theorem lw_p24 : lw_okq (⟨"ShaftDiscs$Shaft", "tieOf", "(I)I"⟩, 3) := ⟨⟨by decide +kernel, by decide +kernel⟩, List.mem_of_getElem? (i := 49) (by decide +kernel), List.mem_of_getElem? (i := 356) (by decide +kernel), List.mem_of_getElem? (i := 357) (by decide +kernel)⟩
theorem lw_p25 : lw_okq (⟨"ShaftDiscs$Speeds", "measure", "(LShaftDiscs$Shaft;)V"⟩, 7) := ⟨⟨by decide +kernel, by decide +kernel⟩, List.mem_of_getElem? (i := 95) (by decide +kernel), List.mem_of_getElem? (i := 366) (by decide +kernel), List.mem_of_getElem? (i := 367) (by decide +kernel)⟩
theorem lw_p26 : lw_okq (⟨"ShaftDiscs$Speeds", "reaches", "(II)Z"⟩, 7) := ⟨⟨by decide +kernel, by decide +kernel⟩, List.mem_of_getElem? (i := 95) (by decide +kernel), List.mem_of_getElem? (i := 373) (by decide +kernel), List.mem_of_getElem? (i := 374) (by decide +kernel)⟩
theorem lw_p27 : lw_okq (⟨"ShaftDiscs$Speeds", "diagonal", "(II)J"⟩, 7) := ⟨⟨by decide +kernel, by decide +kernel⟩, List.mem_of_getElem? (i := 95) (by decide +kernel), List.mem_of_getElem? (i := 377) (by decide +kernel), List.mem_of_getElem? (i := 378) (by decide +kernel)⟩
theorem lw_p28 : lw_okq (⟨"ShaftDiscs$Speeds", "times", "(JJ)J"⟩, 7) := ⟨⟨by decide +kernel, by decide +kernel⟩, List.mem_of_getElem? (i := 95) (by decide +kernel), List.mem_of_getElem? (i := 381) (by decide +kernel), List.mem_of_getElem? (i := 382) (by decide +kernel)⟩
theorem lw_p29 : lw_okq (⟨"ShaftDiscs$Speeds", "less", "(JJ)J"⟩, 7) := ⟨⟨by decide +kernel, by decide +kernel⟩, List.mem_of_getElem? (i := 95) (by decide +kernel), List.mem_of_getElem? (i := 387) (by decide +kernel), List.mem_of_getElem? (i := 388) (by decide +kernel)⟩
theorem lw_p30 : lw_okq (⟨"ShaftDiscs$Speeds", "belowAt", "(I)I"⟩, 7) := ⟨⟨by decide +kernel, by decide +kernel⟩, List.mem_of_getElem? (i := 95) (by decide +kernel), List.mem_of_getElem? (i := 395) (by decide +kernel), List.mem_of_getElem? (i := 396) (by decide +kernel)⟩
theorem lw_p31 : lw_okq (⟨"ShaftDiscs", "answered", "(I)I"⟩, 14) := ⟨⟨by decide +kernel, by decide +kernel⟩, List.mem_of_getElem? (i := 10) (by decide +kernel), List.mem_of_getElem? (i := 401) (by decide +kernel), List.mem_of_getElem? (i := 402) (by decide +kernel)⟩
def lw_privs_2 : List (MethodName × Nat) := [(⟨"ShaftDiscs$Shaft", "has", "(I)Z"⟩, 3), (⟨"ShaftDiscs$Shaft", "exchange", "(II)V"⟩, 3), (⟨"ShaftDiscs", "put", "(III)I"⟩, 14), (⟨"ShaftDiscs$Acts", "keep", "(III)V"⟩, 4), (⟨"ShaftDiscs$Acts", "forgetOldest", "()V"⟩, 4), (⟨"ShaftDiscs$Shaft", "ratioOf", "(I)I"⟩, 3), (⟨"ShaftDiscs$Shaft", "weightOf", "(I)I"⟩, 3), (⟨"ShaftDiscs$Shaft", "springOf", "(I)I"⟩, 3), (⟨"ShaftDiscs$Shaft", "tieOf", "(I)I"⟩, 3), (⟨"ShaftDiscs$Speeds", "measure", "(LShaftDiscs$Shaft;)V"⟩, 7), (⟨"ShaftDiscs$Speeds", "reaches", "(II)Z"⟩, 7), (⟨"ShaftDiscs$Speeds", "diagonal", "(II)J"⟩, 7), (⟨"ShaftDiscs$Speeds", "times", "(JJ)J"⟩, 7), (⟨"ShaftDiscs$Speeds", "less", "(JJ)J"⟩, 7), (⟨"ShaftDiscs$Speeds", "belowAt", "(I)I"⟩, 7), (⟨"ShaftDiscs", "answered", "(I)I"⟩, 14)]
theorem lw_r2 : ∀ q ∈ lw_privs_2, lw_okq q := List.forall_mem_cons.mpr ⟨lw_p16, List.forall_mem_cons.mpr ⟨lw_p17, List.forall_mem_cons.mpr ⟨lw_p18, List.forall_mem_cons.mpr ⟨lw_p19, List.forall_mem_cons.mpr ⟨lw_p20, List.forall_mem_cons.mpr ⟨lw_p21, List.forall_mem_cons.mpr ⟨lw_p22, List.forall_mem_cons.mpr ⟨lw_p23, List.forall_mem_cons.mpr ⟨lw_p24, List.forall_mem_cons.mpr ⟨lw_p25, List.forall_mem_cons.mpr ⟨lw_p26, List.forall_mem_cons.mpr ⟨lw_p27, List.forall_mem_cons.mpr ⟨lw_p28, List.forall_mem_cons.mpr ⟨lw_p29, List.forall_mem_cons.mpr ⟨lw_p30, List.forall_mem_cons.mpr ⟨lw_p31, fun _ h => absurd h List.not_mem_nil⟩⟩⟩⟩⟩⟩⟩⟩⟩⟩⟩⟩⟩⟩⟩⟩
theorem lw_p32 : lw_okq (⟨"ShaftDiscs$Speeds", "boxOf", "(I)I"⟩, 7) := ⟨⟨by decide +kernel, by decide +kernel⟩, List.mem_of_getElem? (i := 95) (by decide +kernel), List.mem_of_getElem? (i := 410) (by decide +kernel), List.mem_of_getElem? (i := 411) (by decide +kernel)⟩
theorem lw_p33 : lw_okq (⟨"ShaftDiscs$Speeds", "boxesAll", "()Z"⟩, 7) := ⟨⟨by decide +kernel, by decide +kernel⟩, List.mem_of_getElem? (i := 95) (by decide +kernel), List.mem_of_getElem? (i := 420) (by decide +kernel), List.mem_of_getElem? (i := 421) (by decide +kernel)⟩
theorem lw_p34 : lw_okq (⟨"ShaftDiscs$Speeds", "widestGap", "()I"⟩, 7) := ⟨⟨by decide +kernel, by decide +kernel⟩, List.mem_of_getElem? (i := 95) (by decide +kernel), List.mem_of_getElem? (i := 425) (by decide +kernel), List.mem_of_getElem? (i := 426) (by decide +kernel)⟩
theorem lw_p35 : lw_okq (⟨"ShaftDiscs$Speeds", "gapAt", "(I)I"⟩, 7) := ⟨⟨by decide +kernel, by decide +kernel⟩, List.mem_of_getElem? (i := 95) (by decide +kernel), List.mem_of_getElem? (i := 429) (by decide +kernel), List.mem_of_getElem? (i := 430) (by decide +kernel)⟩
theorem lw_p36 : lw_okq (⟨"ShaftDiscs$Speeds", "isClearBy", "(II)Z"⟩, 7) := ⟨⟨by decide +kernel, by decide +kernel⟩, List.mem_of_getElem? (i := 95) (by decide +kernel), List.mem_of_getElem? (i := 439) (by decide +kernel), List.mem_of_getElem? (i := 440) (by decide +kernel)⟩
theorem lw_p37 : lw_okq (⟨"ShaftDiscs", "belowMarkTried", "()I"⟩, 14) := ⟨⟨by decide +kernel, by decide +kernel⟩, List.mem_of_getElem? (i := 10) (by decide +kernel), List.mem_of_getElem? (i := 448) (by decide +kernel), List.mem_of_getElem? (i := 449) (by decide +kernel)⟩
theorem lw_p38 : lw_okq (⟨"ShaftDiscs$Shaft", "sumOf", "(II)I"⟩, 3) := ⟨⟨by decide +kernel, by decide +kernel⟩, List.mem_of_getElem? (i := 49) (by decide +kernel), List.mem_of_getElem? (i := 456) (by decide +kernel), List.mem_of_getElem? (i := 457) (by decide +kernel)⟩
theorem lw_p39 : lw_okq (⟨"ShaftDiscs", "turned", "(IZ)I"⟩, 14) := ⟨⟨by decide +kernel, by decide +kernel⟩, List.mem_of_getElem? (i := 10) (by decide +kernel), List.mem_of_getElem? (i := 468) (by decide +kernel), List.mem_of_getElem? (i := 469) (by decide +kernel)⟩
theorem lw_p40 : lw_okq (⟨"ShaftDiscs", "bitsThatFit", "(IIIII)I"⟩, 14) := ⟨⟨by decide +kernel, by decide +kernel⟩, List.mem_of_getElem? (i := 10) (by decide +kernel), List.mem_of_getElem? (i := 480) (by decide +kernel), List.mem_of_getElem? (i := 481) (by decide +kernel)⟩
theorem lw_p41 : lw_okq (⟨"ShaftDiscs", "triedBoxesAre", "(III)Z"⟩, 14) := ⟨⟨by decide +kernel, by decide +kernel⟩, List.mem_of_getElem? (i := 10) (by decide +kernel), List.mem_of_getElem? (i := 484) (by decide +kernel), List.mem_of_getElem? (i := 485) (by decide +kernel)⟩
theorem lw_p42 : lw_okq (⟨"ShaftDiscs", "springsThatFit", "(IZIII)I"⟩, 14) := ⟨⟨by decide +kernel, by decide +kernel⟩, List.mem_of_getElem? (i := 10) (by decide +kernel), List.mem_of_getElem? (i := 488) (by decide +kernel), List.mem_of_getElem? (i := 489) (by decide +kernel)⟩
theorem lw_p43 : lw_okq (⟨"ShaftDiscs", "casesOf", "(III)J"⟩, 14) := ⟨⟨by decide +kernel, by decide +kernel⟩, List.mem_of_getElem? (i := 10) (by decide +kernel), List.mem_of_getElem? (i := 497) (by decide +kernel), List.mem_of_getElem? (i := 498) (by decide +kernel)⟩
theorem lw_p44 : lw_okq (⟨"ShaftDiscs", "drawOne", "(J)V"⟩, 14) := ⟨⟨by decide +kernel, by decide +kernel⟩, List.mem_of_getElem? (i := 10) (by decide +kernel), List.mem_of_getElem? (i := 511) (by decide +kernel), List.mem_of_getElem? (i := 512) (by decide +kernel)⟩
theorem lw_p45 : lw_okq (⟨"ShaftDiscs", "imageAt", "(I)LShaftDiscs$Shaft;"⟩, 14) := ⟨⟨by decide +kernel, by decide +kernel⟩, List.mem_of_getElem? (i := 10) (by decide +kernel), List.mem_of_getElem? (i := 527) (by decide +kernel), List.mem_of_getElem? (i := 528) (by decide +kernel)⟩
theorem lw_p46 : lw_okq (⟨"ShaftDiscs", "asked", "(III)I"⟩, 14) := ⟨⟨by decide +kernel, by decide +kernel⟩, List.mem_of_getElem? (i := 10) (by decide +kernel), List.mem_of_getElem? (i := 552) (by decide +kernel), List.mem_of_getElem? (i := 553) (by decide +kernel)⟩
theorem lw_p47 : lw_okq (⟨"ShaftDiscs", "answerOf", "(III)I"⟩, 14) := ⟨⟨by decide +kernel, by decide +kernel⟩, List.mem_of_getElem? (i := 10) (by decide +kernel), List.mem_of_getElem? (i := 560) (by decide +kernel), List.mem_of_getElem? (i := 561) (by decide +kernel)⟩
def lw_privs_3 : List (MethodName × Nat) := [(⟨"ShaftDiscs$Speeds", "boxOf", "(I)I"⟩, 7), (⟨"ShaftDiscs$Speeds", "boxesAll", "()Z"⟩, 7), (⟨"ShaftDiscs$Speeds", "widestGap", "()I"⟩, 7), (⟨"ShaftDiscs$Speeds", "gapAt", "(I)I"⟩, 7), (⟨"ShaftDiscs$Speeds", "isClearBy", "(II)Z"⟩, 7), (⟨"ShaftDiscs", "belowMarkTried", "()I"⟩, 14), (⟨"ShaftDiscs$Shaft", "sumOf", "(II)I"⟩, 3), (⟨"ShaftDiscs", "turned", "(IZ)I"⟩, 14), (⟨"ShaftDiscs", "bitsThatFit", "(IIIII)I"⟩, 14), (⟨"ShaftDiscs", "triedBoxesAre", "(III)Z"⟩, 14), (⟨"ShaftDiscs", "springsThatFit", "(IZIII)I"⟩, 14), (⟨"ShaftDiscs", "casesOf", "(III)J"⟩, 14), (⟨"ShaftDiscs", "drawOne", "(J)V"⟩, 14), (⟨"ShaftDiscs", "imageAt", "(I)LShaftDiscs$Shaft;"⟩, 14), (⟨"ShaftDiscs", "asked", "(III)I"⟩, 14), (⟨"ShaftDiscs", "answerOf", "(III)I"⟩, 14)]
theorem lw_r3 : ∀ q ∈ lw_privs_3, lw_okq q := List.forall_mem_cons.mpr ⟨lw_p32, List.forall_mem_cons.mpr ⟨lw_p33, List.forall_mem_cons.mpr ⟨lw_p34, List.forall_mem_cons.mpr ⟨lw_p35, List.forall_mem_cons.mpr ⟨lw_p36, List.forall_mem_cons.mpr ⟨lw_p37, List.forall_mem_cons.mpr ⟨lw_p38, List.forall_mem_cons.mpr ⟨lw_p39, List.forall_mem_cons.mpr ⟨lw_p40, List.forall_mem_cons.mpr ⟨lw_p41, List.forall_mem_cons.mpr ⟨lw_p42, List.forall_mem_cons.mpr ⟨lw_p43, List.forall_mem_cons.mpr ⟨lw_p44, List.forall_mem_cons.mpr ⟨lw_p45, List.forall_mem_cons.mpr ⟨lw_p46, List.forall_mem_cons.mpr ⟨lw_p47, fun _ h => absurd h List.not_mem_nil⟩⟩⟩⟩⟩⟩⟩⟩⟩⟩⟩⟩⟩⟩⟩⟩
theorem lw_p48 : lw_okq (⟨"ShaftDiscs", "leaveTrace", "(I)V"⟩, 14) := ⟨⟨by decide +kernel, by decide +kernel⟩, List.mem_of_getElem? (i := 10) (by decide +kernel), List.mem_of_getElem? (i := 564) (by decide +kernel), List.mem_of_getElem? (i := 565) (by decide +kernel)⟩
theorem lw_p49 : lw_okq (⟨"ShaftDiscs", "rowsThatStand", "()I"⟩, 14) := ⟨⟨by decide +kernel, by decide +kernel⟩, List.mem_of_getElem? (i := 10) (by decide +kernel), List.mem_of_getElem? (i := 576) (by decide +kernel), List.mem_of_getElem? (i := 577) (by decide +kernel)⟩
theorem lw_p50 : lw_okq (⟨"ShaftDiscsModel", "finding", "(I)I"⟩, 26) := ⟨⟨by decide +kernel, by decide +kernel⟩, List.mem_of_getElem? (i := 584) (by decide +kernel), List.mem_of_getElem? (i := 683) (by decide +kernel), List.mem_of_getElem? (i := 684) (by decide +kernel)⟩
theorem lw_p51 : lw_okq (⟨"ShaftDiscsModel", "begin", "()V"⟩, 26) := ⟨⟨by decide +kernel, by decide +kernel⟩, List.mem_of_getElem? (i := 584) (by decide +kernel), List.mem_of_getElem? (i := 714) (by decide +kernel), List.mem_of_getElem? (i := 715) (by decide +kernel)⟩
theorem lw_p52 : lw_okq (⟨"ShaftDiscsModel", "nextToken", "()V"⟩, 26) := ⟨⟨by decide +kernel, by decide +kernel⟩, List.mem_of_getElem? (i := 584) (by decide +kernel), List.mem_of_getElem? (i := 718) (by decide +kernel), List.mem_of_getElem? (i := 719) (by decide +kernel)⟩
theorem lw_p53 : lw_okq (⟨"ShaftDiscsModel", "isLetter", "(I)Z"⟩, 26) := ⟨⟨by decide +kernel, by decide +kernel⟩, List.mem_of_getElem? (i := 584) (by decide +kernel), List.mem_of_getElem? (i := 727) (by decide +kernel), List.mem_of_getElem? (i := 728) (by decide +kernel)⟩
theorem lw_p54 : lw_okq (⟨"ShaftDiscsModel", "must", "(Z)V"⟩, 26) := ⟨⟨by decide +kernel, by decide +kernel⟩, List.mem_of_getElem? (i := 584) (by decide +kernel), List.mem_of_getElem? (i := 731) (by decide +kernel), List.mem_of_getElem? (i := 732) (by decide +kernel)⟩
theorem lw_p55 : lw_okq (⟨"ShaftDiscsModel", "bad", "(I)V"⟩, 26) := ⟨⟨by decide +kernel, by decide +kernel⟩, List.mem_of_getElem? (i := 584) (by decide +kernel), List.mem_of_getElem? (i := 735) (by decide +kernel), List.mem_of_getElem? (i := 736) (by decide +kernel)⟩
theorem lw_p56 : lw_okq (⟨"ShaftDiscsModel", "number", "(II)I"⟩, 26) := ⟨⟨by decide +kernel, by decide +kernel⟩, List.mem_of_getElem? (i := 584) (by decide +kernel), List.mem_of_getElem? (i := 739) (by decide +kernel), List.mem_of_getElem? (i := 740) (by decide +kernel)⟩
theorem lw_p57 : lw_okq (⟨"ShaftDiscsModel", "mustSign", "(I)V"⟩, 26) := ⟨⟨by decide +kernel, by decide +kernel⟩, List.mem_of_getElem? (i := 584) (by decide +kernel), List.mem_of_getElem? (i := 743) (by decide +kernel), List.mem_of_getElem? (i := 744) (by decide +kernel)⟩
theorem lw_p58 : lw_okq (⟨"ShaftDiscsModel", "isSort", "()Z"⟩, 26) := ⟨⟨by decide +kernel, by decide +kernel⟩, List.mem_of_getElem? (i := 584) (by decide +kernel), List.mem_of_getElem? (i := 747) (by decide +kernel), List.mem_of_getElem? (i := 748) (by decide +kernel)⟩
theorem lw_p59 : lw_okq (⟨"ShaftDiscsModel", "readDisc", "()V"⟩, 26) := ⟨⟨by decide +kernel, by decide +kernel⟩, List.mem_of_getElem? (i := 584) (by decide +kernel), List.mem_of_getElem? (i := 754) (by decide +kernel), List.mem_of_getElem? (i := 755) (by decide +kernel)⟩
theorem lw_p60 : lw_okq (⟨"ShaftDiscsModel", "failed", "()Z"⟩, 26) := ⟨⟨by decide +kernel, by decide +kernel⟩, List.mem_of_getElem? (i := 584) (by decide +kernel), List.mem_of_getElem? (i := 758) (by decide +kernel), List.mem_of_getElem? (i := 759) (by decide +kernel)⟩
theorem lw_p61 : lw_okq (⟨"ShaftDiscsModel", "isDisc", "(I)Z"⟩, 26) := ⟨⟨by decide +kernel, by decide +kernel⟩, List.mem_of_getElem? (i := 584) (by decide +kernel), List.mem_of_getElem? (i := 770) (by decide +kernel), List.mem_of_getElem? (i := 771) (by decide +kernel)⟩
theorem lw_p62 : lw_okq (⟨"ShaftDiscsModel", "keep", "()V"⟩, 26) := ⟨⟨by decide +kernel, by decide +kernel⟩, List.mem_of_getElem? (i := 584) (by decide +kernel), List.mem_of_getElem? (i := 774) (by decide +kernel), List.mem_of_getElem? (i := 775) (by decide +kernel)⟩
theorem lw_p63 : lw_okq (⟨"ShaftDiscsModel", "isThere", "()Z"⟩, 26) := ⟨⟨by decide +kernel, by decide +kernel⟩, List.mem_of_getElem? (i := 584) (by decide +kernel), List.mem_of_getElem? (i := 790) (by decide +kernel), List.mem_of_getElem? (i := 791) (by decide +kernel)⟩
def lw_privs_4 : List (MethodName × Nat) := [(⟨"ShaftDiscs", "leaveTrace", "(I)V"⟩, 14), (⟨"ShaftDiscs", "rowsThatStand", "()I"⟩, 14), (⟨"ShaftDiscsModel", "finding", "(I)I"⟩, 26), (⟨"ShaftDiscsModel", "begin", "()V"⟩, 26), (⟨"ShaftDiscsModel", "nextToken", "()V"⟩, 26), (⟨"ShaftDiscsModel", "isLetter", "(I)Z"⟩, 26), (⟨"ShaftDiscsModel", "must", "(Z)V"⟩, 26), (⟨"ShaftDiscsModel", "bad", "(I)V"⟩, 26), (⟨"ShaftDiscsModel", "number", "(II)I"⟩, 26), (⟨"ShaftDiscsModel", "mustSign", "(I)V"⟩, 26), (⟨"ShaftDiscsModel", "isSort", "()Z"⟩, 26), (⟨"ShaftDiscsModel", "readDisc", "()V"⟩, 26), (⟨"ShaftDiscsModel", "failed", "()Z"⟩, 26), (⟨"ShaftDiscsModel", "isDisc", "(I)Z"⟩, 26), (⟨"ShaftDiscsModel", "keep", "()V"⟩, 26), (⟨"ShaftDiscsModel", "isThere", "()Z"⟩, 26)]
theorem lw_r4 : ∀ q ∈ lw_privs_4, lw_okq q := List.forall_mem_cons.mpr ⟨lw_p48, List.forall_mem_cons.mpr ⟨lw_p49, List.forall_mem_cons.mpr ⟨lw_p50, List.forall_mem_cons.mpr ⟨lw_p51, List.forall_mem_cons.mpr ⟨lw_p52, List.forall_mem_cons.mpr ⟨lw_p53, List.forall_mem_cons.mpr ⟨lw_p54, List.forall_mem_cons.mpr ⟨lw_p55, List.forall_mem_cons.mpr ⟨lw_p56, List.forall_mem_cons.mpr ⟨lw_p57, List.forall_mem_cons.mpr ⟨lw_p58, List.forall_mem_cons.mpr ⟨lw_p59, List.forall_mem_cons.mpr ⟨lw_p60, List.forall_mem_cons.mpr ⟨lw_p61, List.forall_mem_cons.mpr ⟨lw_p62, List.forall_mem_cons.mpr ⟨lw_p63, fun _ h => absurd h List.not_mem_nil⟩⟩⟩⟩⟩⟩⟩⟩⟩⟩⟩⟩⟩⟩⟩⟩
theorem lw_p64 : lw_okq (⟨"ShaftDiscsModel", "reckon", "([III)V"⟩, 26) := ⟨⟨by decide +kernel, by decide +kernel⟩, List.mem_of_getElem? (i := 584) (by decide +kernel), List.mem_of_getElem? (i := 825) (by decide +kernel), List.mem_of_getElem? (i := 826) (by decide +kernel)⟩
theorem lw_p65 : lw_okq (⟨"ShaftDiscsModel", "product", "(JJ)J"⟩, 26) := ⟨⟨by decide +kernel, by decide +kernel⟩, List.mem_of_getElem? (i := 584) (by decide +kernel), List.mem_of_getElem? (i := 829) (by decide +kernel), List.mem_of_getElem? (i := 830) (by decide +kernel)⟩
theorem lw_p66 : lw_okq (⟨"ShaftDiscsModel", "difference", "(JJ)J"⟩, 26) := ⟨⟨by decide +kernel, by decide +kernel⟩, List.mem_of_getElem? (i := 584) (by decide +kernel), List.mem_of_getElem? (i := 835) (by decide +kernel), List.mem_of_getElem? (i := 836) (by decide +kernel)⟩
theorem lw_p67 : lw_okq (⟨"ShaftDiscsModel", "belowOf", "([II)I"⟩, 26) := ⟨⟨by decide +kernel, by decide +kernel⟩, List.mem_of_getElem? (i := 584) (by decide +kernel), List.mem_of_getElem? (i := 843) (by decide +kernel), List.mem_of_getElem? (i := 844) (by decide +kernel)⟩
theorem lw_p68 : lw_okq (⟨"ShaftDiscsModel", "unless", "(I)I"⟩, 26) := ⟨⟨by decide +kernel, by decide +kernel⟩, List.mem_of_getElem? (i := 584) (by decide +kernel), List.mem_of_getElem? (i := 847) (by decide +kernel), List.mem_of_getElem? (i := 848) (by decide +kernel)⟩
theorem lw_p69 : lw_okq (⟨"ShaftDiscsModel", "boxOf", "([II)I"⟩, 26) := ⟨⟨by decide +kernel, by decide +kernel⟩, List.mem_of_getElem? (i := 584) (by decide +kernel), List.mem_of_getElem? (i := 855) (by decide +kernel), List.mem_of_getElem? (i := 856) (by decide +kernel)⟩
theorem lw_p70 : lw_okq (⟨"ShaftDiscsModel", "layBoxes", "([II)V"⟩, 26) := ⟨⟨by decide +kernel, by decide +kernel⟩, List.mem_of_getElem? (i := 584) (by decide +kernel), List.mem_of_getElem? (i := 863) (by decide +kernel), List.mem_of_getElem? (i := 864) (by decide +kernel)⟩
theorem lw_p71 : lw_okq (⟨"ShaftDiscsModel", "isClear", "(II)Z"⟩, 26) := ⟨⟨by decide +kernel, by decide +kernel⟩, List.mem_of_getElem? (i := 584) (by decide +kernel), List.mem_of_getElem? (i := 871) (by decide +kernel), List.mem_of_getElem? (i := 872) (by decide +kernel)⟩
theorem lw_p72 : lw_okq (⟨"ShaftDiscsModel", "layThen", "()V"⟩, 26) := ⟨⟨by decide +kernel, by decide +kernel⟩, List.mem_of_getElem? (i := 584) (by decide +kernel), List.mem_of_getElem? (i := 880) (by decide +kernel), List.mem_of_getElem? (i := 881) (by decide +kernel)⟩
theorem lw_p73 : lw_okq (⟨"ShaftDiscsModel", "together", "(I)I"⟩, 26) := ⟨⟨by decide +kernel, by decide +kernel⟩, List.mem_of_getElem? (i := 584) (by decide +kernel), List.mem_of_getElem? (i := 897) (by decide +kernel), List.mem_of_getElem? (i := 898) (by decide +kernel)⟩
theorem lw_p74 : lw_okq (⟨"ShaftDiscsModel", "afterTurns", "(III)I"⟩, 26) := ⟨⟨by decide +kernel, by decide +kernel⟩, List.mem_of_getElem? (i := 584) (by decide +kernel), List.mem_of_getElem? (i := 906) (by decide +kernel), List.mem_of_getElem? (i := 907) (by decide +kernel)⟩
theorem lw_p75 : lw_okq (⟨"ShaftDiscsModel", "rowFound", "(III)I"⟩, 26) := ⟨⟨by decide +kernel, by decide +kernel⟩, List.mem_of_getElem? (i := 584) (by decide +kernel), List.mem_of_getElem? (i := 914) (by decide +kernel), List.mem_of_getElem? (i := 915) (by decide +kernel)⟩
theorem lw_p76 : lw_okq (⟨"ShaftDiscsModel", "isBoxedSo", "(II)Z"⟩, 26) := ⟨⟨by decide +kernel, by decide +kernel⟩, List.mem_of_getElem? (i := 584) (by decide +kernel), List.mem_of_getElem? (i := 918) (by decide +kernel), List.mem_of_getElem? (i := 919) (by decide +kernel)⟩
theorem lw_p77 : lw_okq (⟨"ShaftDiscsModel", "sizeOf", "(I)I"⟩, 26) := ⟨⟨by decide +kernel, by decide +kernel⟩, List.mem_of_getElem? (i := 584) (by decide +kernel), List.mem_of_getElem? (i := 960) (by decide +kernel), List.mem_of_getElem? (i := 961) (by decide +kernel)⟩
theorem lw_p78 : lw_okq (⟨"ShaftDiscsModel", "tiedSize", "(I)I"⟩, 26) := ⟨⟨by decide +kernel, by decide +kernel⟩, List.mem_of_getElem? (i := 584) (by decide +kernel), List.mem_of_getElem? (i := 964) (by decide +kernel), List.mem_of_getElem? (i := 965) (by decide +kernel)⟩
theorem lw_p79 : lw_okq (⟨"ShaftDiscsModel", "began", "(I)V"⟩, 26) := ⟨⟨by decide +kernel, by decide +kernel⟩, List.mem_of_getElem? (i := 584) (by decide +kernel), List.mem_of_getElem? (i := 968) (by decide +kernel), List.mem_of_getElem? (i := 969) (by decide +kernel)⟩
def lw_privs_5 : List (MethodName × Nat) := [(⟨"ShaftDiscsModel", "reckon", "([III)V"⟩, 26), (⟨"ShaftDiscsModel", "product", "(JJ)J"⟩, 26), (⟨"ShaftDiscsModel", "difference", "(JJ)J"⟩, 26), (⟨"ShaftDiscsModel", "belowOf", "([II)I"⟩, 26), (⟨"ShaftDiscsModel", "unless", "(I)I"⟩, 26), (⟨"ShaftDiscsModel", "boxOf", "([II)I"⟩, 26), (⟨"ShaftDiscsModel", "layBoxes", "([II)V"⟩, 26), (⟨"ShaftDiscsModel", "isClear", "(II)Z"⟩, 26), (⟨"ShaftDiscsModel", "layThen", "()V"⟩, 26), (⟨"ShaftDiscsModel", "together", "(I)I"⟩, 26), (⟨"ShaftDiscsModel", "afterTurns", "(III)I"⟩, 26), (⟨"ShaftDiscsModel", "rowFound", "(III)I"⟩, 26), (⟨"ShaftDiscsModel", "isBoxedSo", "(II)Z"⟩, 26), (⟨"ShaftDiscsModel", "sizeOf", "(I)I"⟩, 26), (⟨"ShaftDiscsModel", "tiedSize", "(I)I"⟩, 26), (⟨"ShaftDiscsModel", "began", "(I)V"⟩, 26)]
theorem lw_r5 : ∀ q ∈ lw_privs_5, lw_okq q := List.forall_mem_cons.mpr ⟨lw_p64, List.forall_mem_cons.mpr ⟨lw_p65, List.forall_mem_cons.mpr ⟨lw_p66, List.forall_mem_cons.mpr ⟨lw_p67, List.forall_mem_cons.mpr ⟨lw_p68, List.forall_mem_cons.mpr ⟨lw_p69, List.forall_mem_cons.mpr ⟨lw_p70, List.forall_mem_cons.mpr ⟨lw_p71, List.forall_mem_cons.mpr ⟨lw_p72, List.forall_mem_cons.mpr ⟨lw_p73, List.forall_mem_cons.mpr ⟨lw_p74, List.forall_mem_cons.mpr ⟨lw_p75, List.forall_mem_cons.mpr ⟨lw_p76, List.forall_mem_cons.mpr ⟨lw_p77, List.forall_mem_cons.mpr ⟨lw_p78, List.forall_mem_cons.mpr ⟨lw_p79, fun _ h => absurd h List.not_mem_nil⟩⟩⟩⟩⟩⟩⟩⟩⟩⟩⟩⟩⟩⟩⟩⟩
theorem lw_p80 : lw_okq (⟨"ShaftDiscsModel", "plainSize", "(I)I"⟩, 26) := ⟨⟨by decide +kernel, by decide +kernel⟩, List.mem_of_getElem? (i := 584) (by decide +kernel), List.mem_of_getElem? (i := 972) (by decide +kernel), List.mem_of_getElem? (i := 973) (by decide +kernel)⟩
theorem lw_p81 : lw_okq (⟨"ShaftDiscsModel", "markOf", "(I)I"⟩, 26) := ⟨⟨by decide +kernel, by decide +kernel⟩, List.mem_of_getElem? (i := 584) (by decide +kernel), List.mem_of_getElem? (i := 976) (by decide +kernel), List.mem_of_getElem? (i := 977) (by decide +kernel)⟩
def lw_privs_6 : List (MethodName × Nat) := [(⟨"ShaftDiscsModel", "plainSize", "(I)I"⟩, 26), (⟨"ShaftDiscsModel", "markOf", "(I)I"⟩, 26)]
theorem lw_r6 : ∀ q ∈ lw_privs_6, lw_okq q := List.forall_mem_cons.mpr ⟨lw_p80, List.forall_mem_cons.mpr ⟨lw_p81, fun _ h => absurd h List.not_mem_nil⟩⟩
def lw_privs : List (MethodName × Nat) := lw_privs_1 ++ (lw_privs_2 ++ (lw_privs_3 ++ (lw_privs_4 ++ (lw_privs_5 ++ (lw_privs_6)))))
def lw_tbl : List Cond := k2_sels lw_privs ++ tables_1
theorem lw_privs_ok : ∀ q ∈ lw_privs, lw_okq q := by
  show ∀ q ∈ lw_privs_1 ++ (lw_privs_2 ++ (lw_privs_3 ++ (lw_privs_4 ++ (lw_privs_5 ++ (lw_privs_6))))), lw_okq q
  exact List.forall_mem_append.mpr ⟨lw_r1, List.forall_mem_append.mpr ⟨lw_r2, List.forall_mem_append.mpr ⟨lw_r3, List.forall_mem_append.mpr ⟨lw_r4, List.forall_mem_append.mpr ⟨lw_r5, lw_r6⟩⟩⟩⟩⟩

-- names of classes, fields, methods (out of the printed names)
def RX0 : String := "ShaftDiscs$Acts"
def TX0 : u_T := fun k => match k with
  | 0 => ("ShaftDiscs$Acts", "whats", "[I", true)
  | 1 => ("ShaftDiscs$Acts", "ones", "[I", true)
  | 2 => ("ShaftDiscs$Acts", "befores", "[I", true)
  | _ => ("ShaftDiscs$Acts", "size", "I", false)
def tyX0 : Nat → FieldType := fun k => match k with
  | 0 => .array .int
  | 1 => .array .int
  | 2 => .array .int
  | _ => .int
theorem nmX0 : ∀ a, a < 4 → ∀ b, b < 4 → a ≠ b → (TX0 a).2.1 ≠ (TX0 b).2.1 := by decide +kernel
theorem tyX0_ok : ∀ k, k < 4 → parseFieldDescriptor (TX0 k).2.2.1 = some (tyX0 k) := by decide +kernel
abbrev cX0_init : ByteArray := prog_2_method_1_code
def yX0_init : MethodName := ⟨RX0, "<init>", "()V"⟩
abbrev cX0_forgetAll : ByteArray := prog_2_method_2_code
def yX0_forgetAll : MethodName := ⟨RX0, "forgetAll", "()V"⟩
abbrev cX0_keep : ByteArray := prog_2_method_3_code
def yX0_keep : MethodName := ⟨RX0, "keep", "(III)V"⟩
abbrev cX0_forgetOldest : ByteArray := prog_2_method_4_code
def yX0_forgetOldest : MethodName := ⟨RX0, "forgetOldest", "()V"⟩
abbrev cX0_takeBack : ByteArray := prog_2_method_5_code
def yX0_takeBack : MethodName := ⟨RX0, "takeBack", "(LShaftDiscs$Shaft;)Z"⟩
def RX1 : String := "ShaftDiscs$Reader"
def TX1 : u_T := fun k => match k with
  | 0 => ("ShaftDiscs$Reader", "tape", "[I", true)
  | 1 => ("ShaftDiscs$Reader", "size", "I", false)
  | 2 => ("ShaftDiscs$Reader", "at", "I", false)
  | 3 => ("ShaftDiscs$Reader", "number", "I", false)
  | 4 => ("ShaftDiscs$Reader", "fault", "I", false)
  | _ => ("ShaftDiscs$Reader", "faultPlace", "I", false)
def tyX1 : Nat → FieldType := fun k => match k with
  | 0 => .array .int
  | 1 => .int
  | 2 => .int
  | 3 => .int
  | 4 => .int
  | _ => .int
theorem nmX1 : ∀ a, a < 6 → ∀ b, b < 6 → a ≠ b → (TX1 a).2.1 ≠ (TX1 b).2.1 := by decide +kernel
theorem tyX1_ok : ∀ k, k < 6 → parseFieldDescriptor (TX1 k).2.2.1 = some (tyX1 k) := by decide +kernel
abbrev cX1_init : ByteArray := prog_3_method_1_code
def yX1_init : MethodName := ⟨RX1, "<init>", "()V"⟩
abbrev cX1_takes : ByteArray := prog_3_method_2_code
def yX1_takes : MethodName := ⟨RX1, "takes", "(I)Z"⟩
abbrev cX1_reads : ByteArray := prog_3_method_3_code
def yX1_reads : MethodName := ⟨RX1, "reads", "(LShaftDiscs$Shaft;)Z"⟩
abbrev cX1_readsLaw : ByteArray := prog_3_method_4_code
def yX1_readsLaw : MethodName := ⟨RX1, "readsLaw", "(LShaftDiscs$Shaft;)Z"⟩
abbrev cX1_readsDiscs : ByteArray := prog_3_method_5_code
def yX1_readsDiscs : MethodName := ⟨RX1, "readsDiscs", "(LShaftDiscs$Shaft;)Z"⟩
abbrev cX1_readsNumbers : ByteArray := prog_3_method_6_code
def yX1_readsNumbers : MethodName := ⟨RX1, "readsNumbers", "(LShaftDiscs$Shaft;I)Z"⟩
abbrev cX1_readsSign : ByteArray := prog_3_method_7_code
def yX1_readsSign : MethodName := ⟨RX1, "readsSign", "(I)Z"⟩
abbrev cX1_readsNumber : ByteArray := prog_3_method_8_code
def yX1_readsNumber : MethodName := ⟨RX1, "readsNumber", "(II)Z"⟩
abbrev cX1_blames : ByteArray := prog_3_method_9_code
def yX1_blames : MethodName := ⟨RX1, "blames", "(I)Z"⟩
abbrev cX1_byteAtHand : ByteArray := prog_3_method_10_code
def yX1_byteAtHand : MethodName := ⟨RX1, "byteAtHand", "()I"⟩
abbrev cX1_isFigure : ByteArray := prog_3_method_11_code
def yX1_isFigure : MethodName := ⟨RX1, "isFigure", "(I)Z"⟩
abbrev cX1_kindOf : ByteArray := prog_3_method_12_code
def yX1_kindOf : MethodName := ⟨RX1, "kindOf", "(I)I"⟩
def RX2 : String := "ShaftDiscs$Shaft"
def TX2 : u_T := fun k => match k with
  | 0 => ("ShaftDiscs$Shaft", "told", "[[I", true)
  | 1 => ("ShaftDiscs$Shaft", "discs", "I", false)
  | _ => ("ShaftDiscs$Shaft", "mark", "I", false)
def tyX2 : Nat → FieldType := fun k => match k with
  | 0 => .array (.array .int)
  | 1 => .int
  | _ => .int
theorem nmX2 : ∀ a, a < 3 → ∀ b, b < 3 → a ≠ b → (TX2 a).2.1 ≠ (TX2 b).2.1 := by decide +kernel
theorem tyX2_ok : ∀ k, k < 3 → parseFieldDescriptor (TX2 k).2.2.1 = some (tyX2 k) := by decide +kernel
abbrev cX2_init : ByteArray := prog_4_method_1_code
def yX2_init : MethodName := ⟨RX2, "<init>", "()V"⟩
abbrev cX2_has : ByteArray := prog_4_method_2_code
def yX2_has : MethodName := ⟨RX2, "has", "(I)Z"⟩
abbrev cX2_takeFrom : ByteArray := prog_4_method_3_code
def yX2_takeFrom : MethodName := ⟨RX2, "takeFrom", "(LShaftDiscs$Shaft;)V"⟩
abbrev cX2_exchange : ByteArray := prog_4_method_4_code
def yX2_exchange : MethodName := ⟨RX2, "exchange", "(II)V"⟩
abbrev cX2_sumOf : ByteArray := prog_4_method_5_code
def yX2_sumOf : MethodName := ⟨RX2, "sumOf", "(II)I"⟩
abbrev cX2_ratioOf : ByteArray := prog_4_method_6_code
def yX2_ratioOf : MethodName := ⟨RX2, "ratioOf", "(I)I"⟩
abbrev cX2_weightOf : ByteArray := prog_4_method_7_code
def yX2_weightOf : MethodName := ⟨RX2, "weightOf", "(I)I"⟩
abbrev cX2_springOf : ByteArray := prog_4_method_8_code
def yX2_springOf : MethodName := ⟨RX2, "springOf", "(I)I"⟩
abbrev cX2_tieOf : ByteArray := prog_4_method_9_code
def yX2_tieOf : MethodName := ⟨RX2, "tieOf", "(I)I"⟩
def RX3 : String := "ShaftDiscs$Speeds"
def TX3 : u_T := fun k => match k with
  | 0 => ("ShaftDiscs$Speeds", "weights", "[J", true)
  | 1 => ("ShaftDiscs$Speeds", "springs", "[J", true)
  | 2 => ("ShaftDiscs$Speeds", "ties", "[J", true)
  | 3 => ("ShaftDiscs$Speeds", "determinants", "[J", true)
  | 4 => ("ShaftDiscs$Speeds", "boxes", "[I", true)
  | 5 => ("ShaftDiscs$Speeds", "discs", "I", false)
  | _ => ("ShaftDiscs$Speeds", "over", "Z", false)
def tyX3 : Nat → FieldType := fun k => match k with
  | 0 => .array .long
  | 1 => .array .long
  | 2 => .array .long
  | 3 => .array .long
  | 4 => .array .int
  | 5 => .int
  | _ => .boolean
theorem nmX3 : ∀ a, a < 7 → ∀ b, b < 7 → a ≠ b → (TX3 a).2.1 ≠ (TX3 b).2.1 := by decide +kernel
theorem tyX3_ok : ∀ k, k < 7 → parseFieldDescriptor (TX3 k).2.2.1 = some (tyX3 k) := by decide +kernel
abbrev cX3_init : ByteArray := prog_5_method_1_code
def yX3_init : MethodName := ⟨RX3, "<init>", "()V"⟩
abbrev cX3_measure : ByteArray := prog_5_method_2_code
def yX3_measure : MethodName := ⟨RX3, "measure", "(LShaftDiscs$Shaft;)V"⟩
abbrev cX3_reaches : ByteArray := prog_5_method_3_code
def yX3_reaches : MethodName := ⟨RX3, "reaches", "(II)Z"⟩
abbrev cX3_diagonal : ByteArray := prog_5_method_4_code
def yX3_diagonal : MethodName := ⟨RX3, "diagonal", "(II)J"⟩
abbrev cX3_times : ByteArray := prog_5_method_5_code
def yX3_times : MethodName := ⟨RX3, "times", "(JJ)J"⟩
abbrev cX3_less : ByteArray := prog_5_method_6_code
def yX3_less : MethodName := ⟨RX3, "less", "(JJ)J"⟩
abbrev cX3_belowAt : ByteArray := prog_5_method_7_code
def yX3_belowAt : MethodName := ⟨RX3, "belowAt", "(I)I"⟩
abbrev cX3_boxOf : ByteArray := prog_5_method_8_code
def yX3_boxOf : MethodName := ⟨RX3, "boxOf", "(I)I"⟩
abbrev cX3_boxesAll : ByteArray := prog_5_method_9_code
def yX3_boxesAll : MethodName := ⟨RX3, "boxesAll", "()Z"⟩
abbrev cX3_widestGap : ByteArray := prog_5_method_10_code
def yX3_widestGap : MethodName := ⟨RX3, "widestGap", "()I"⟩
abbrev cX3_gapAt : ByteArray := prog_5_method_11_code
def yX3_gapAt : MethodName := ⟨RX3, "gapAt", "(I)I"⟩
abbrev cX3_isClearBy : ByteArray := prog_5_method_12_code
def yX3_isClearBy : MethodName := ⟨RX3, "isClearBy", "(II)Z"⟩
def RX4 : String := "ShaftDiscs"
def TX4 : u_T := fun k => match k with
  | 0 => ("ShaftDiscs", "lanes", "[I", true)
  | 1 => ("ShaftDiscs", "sizes", "[I", true)
  | 2 => ("ShaftDiscs", "items", "[[I", true)
  | 3 => ("ShaftDiscs", "reader", "LShaftDiscs$Reader;", true)
  | 4 => ("ShaftDiscs", "shaft", "LShaftDiscs$Shaft;", true)
  | 5 => ("ShaftDiscs", "tried", "LShaftDiscs$Shaft;", true)
  | 6 => ("ShaftDiscs", "firstImage", "LShaftDiscs$Shaft;", true)
  | 7 => ("ShaftDiscs", "secondImage", "LShaftDiscs$Shaft;", true)
  | 8 => ("ShaftDiscs", "acts", "LShaftDiscs$Acts;", true)
  | 9 => ("ShaftDiscs", "speeds", "LShaftDiscs$Speeds;", true)
  | 10 => ("ShaftDiscs", "traced", "[I", true)
  | 11 => ("ShaftDiscs", "tracedCount", "I", false)
  | 12 => ("ShaftDiscs", "latestFault", "I", false)
  | _ => ("ShaftDiscs", "finding", "I", false)
def tyX4 : Nat → FieldType := fun k => match k with
  | 0 => .array .int
  | 1 => .array .int
  | 2 => .array (.array .int)
  | 3 => .object "ShaftDiscs$Reader"
  | 4 => .object "ShaftDiscs$Shaft"
  | 5 => .object "ShaftDiscs$Shaft"
  | 6 => .object "ShaftDiscs$Shaft"
  | 7 => .object "ShaftDiscs$Shaft"
  | 8 => .object "ShaftDiscs$Acts"
  | 9 => .object "ShaftDiscs$Speeds"
  | 10 => .array .int
  | 11 => .int
  | 12 => .int
  | _ => .int
theorem nmX4 : ∀ a, a < 14 → ∀ b, b < 14 → a ≠ b → (TX4 a).2.1 ≠ (TX4 b).2.1 := by decide +kernel
theorem tyX4_ok : ∀ k, k < 14 → parseFieldDescriptor (TX4 k).2.2.1 = some (tyX4 k) := by decide +kernel
abbrev cX4_init : ByteArray := prog_1_method_1_code
def yX4_init : MethodName := ⟨RX4, "<init>", "()V"⟩
abbrev cX4_row : ByteArray := prog_1_method_2_code
def yX4_row : MethodName := ⟨RX4, "row", "(III)I"⟩
abbrev cX4_set : ByteArray := prog_1_method_3_code
def yX4_set : MethodName := ⟨RX4, "set", "(III)I"⟩
abbrev cX4_copy : ByteArray := prog_1_method_4_code
def yX4_copy : MethodName := ⟨RX4, "copy", "(IIIII)I"⟩
abbrev cX4_drop : ByteArray := prog_1_method_5_code
def yX4_drop : MethodName := ⟨RX4, "drop", "(I)I"⟩
abbrev cX4_isRow : ByteArray := prog_1_method_6_code
def yX4_isRow : MethodName := ⟨RX4, "isRow", "(I)Z"⟩
abbrev cX4_isMissing : ByteArray := prog_1_method_7_code
def yX4_isMissing : MethodName := ⟨RX4, "isMissing", "(I)Z"⟩
abbrev cX4_isWithin : ByteArray := prog_1_method_8_code
def yX4_isWithin : MethodName := ⟨RX4, "isWithin", "(III)Z"⟩
abbrev cX4_narrowed : ByteArray := prog_1_method_9_code
def yX4_narrowed : MethodName := ⟨RX4, "narrowed", "(II)I"⟩
abbrev cX4_feed : ByteArray := prog_1_method_10_code
def yX4_feed : MethodName := ⟨RX4, "feed", "(I)I"⟩
abbrev cX4_shaft : ByteArray := prog_1_method_11_code
def yX4_shaft : MethodName := ⟨RX4, "shaft", "()I"⟩
abbrev cX4_fault : ByteArray := prog_1_method_12_code
def yX4_fault : MethodName := ⟨RX4, "fault", "()I"⟩
abbrev cX4_undo : ByteArray := prog_1_method_13_code
def yX4_undo : MethodName := ⟨RX4, "undo", "()I"⟩
abbrev cX4_change : ByteArray := prog_1_method_14_code
def yX4_change : MethodName := ⟨RX4, "change", "(III)I"⟩
abbrev cX4_become : ByteArray := prog_1_method_15_code
def yX4_become : MethodName := ⟨RX4, "become", "(II)I"⟩
abbrev cX4_mark : ByteArray := prog_1_method_16_code
def yX4_mark : MethodName := ⟨RX4, "mark", "(I)I"⟩
abbrev cX4_swap : ByteArray := prog_1_method_17_code
def yX4_swap : MethodName := ⟨RX4, "swap", "(II)I"⟩
abbrev cX4_disc : ByteArray := prog_1_method_18_code
def yX4_disc : MethodName := ⟨RX4, "disc", "(II)I"⟩
abbrev cX4_put : ByteArray := prog_1_method_19_code
def yX4_put : MethodName := ⟨RX4, "put", "(III)I"⟩
abbrev cX4_isMark : ByteArray := prog_1_method_20_code
def yX4_isMark : MethodName := ⟨RX4, "isMark", "(I)Z"⟩
abbrev cX4_determinant : ByteArray := prog_1_method_21_code
def yX4_determinant : MethodName := ⟨RX4, "determinant", "(II)J"⟩
abbrev cX4_below : ByteArray := prog_1_method_22_code
def yX4_below : MethodName := ⟨RX4, "below", "(I)I"⟩
abbrev cX4_box : ByteArray := prog_1_method_23_code
def yX4_box : MethodName := ⟨RX4, "box", "(I)I"⟩
abbrev cX4_widest : ByteArray := prog_1_method_24_code
def yX4_widest : MethodName := ⟨RX4, "widest", "(I)I"⟩
abbrev cX4_clear : ByteArray := prog_1_method_25_code
def yX4_clear : MethodName := ⟨RX4, "clear", "(II)I"⟩
abbrev cX4_stiffer : ByteArray := prog_1_method_26_code
def yX4_stiffer : MethodName := ⟨RX4, "stiffer", "(II)I"⟩
abbrev cX4_sets : ByteArray := prog_1_method_27_code
def yX4_sets : MethodName := ⟨RX4, "sets", "(II)I"⟩
abbrev cX4_share : ByteArray := prog_1_method_28_code
def yX4_share : MethodName := ⟨RX4, "share", "(II)I"⟩
abbrev cX4_byTurns : ByteArray := prog_1_method_29_code
def yX4_byTurns : MethodName := ⟨RX4, "byTurns", "(I)I"⟩
abbrev cX4_who : ByteArray := prog_1_method_30_code
def yX4_who : MethodName := ⟨RX4, "who", "(IIIII)I"⟩
abbrev cX4_broken : ByteArray := prog_1_method_31_code
def yX4_broken : MethodName := ⟨RX4, "broken", "(III)J"⟩
abbrev cX4_drawn : ByteArray := prog_1_method_32_code
def yX4_drawn : MethodName := ⟨RX4, "drawn", "(III)I"⟩
abbrev cX4_image : ByteArray := prog_1_method_33_code
def yX4_image : MethodName := ⟨RX4, "image", "(I)I"⟩
abbrev cX4_restore : ByteArray := prog_1_method_34_code
def yX4_restore : MethodName := ⟨RX4, "restore", "(I)I"⟩
abbrev cX4_belowMarkTried : ByteArray := prog_1_method_35_code
def yX4_belowMarkTried : MethodName := ⟨RX4, "belowMarkTried", "()I"⟩
abbrev cX4_turned : ByteArray := prog_1_method_36_code
def yX4_turned : MethodName := ⟨RX4, "turned", "(IZ)I"⟩
abbrev cX4_bitsThatFit : ByteArray := prog_1_method_37_code
def yX4_bitsThatFit : MethodName := ⟨RX4, "bitsThatFit", "(IIIII)I"⟩
abbrev cX4_springsThatFit : ByteArray := prog_1_method_38_code
def yX4_springsThatFit : MethodName := ⟨RX4, "springsThatFit", "(IZIII)I"⟩
abbrev cX4_triedBoxesAre : ByteArray := prog_1_method_39_code
def yX4_triedBoxesAre : MethodName := ⟨RX4, "triedBoxesAre", "(III)Z"⟩
abbrev cX4_casesOf : ByteArray := prog_1_method_40_code
def yX4_casesOf : MethodName := ⟨RX4, "casesOf", "(III)J"⟩
abbrev cX4_commonDivisor : ByteArray := prog_1_method_41_code
def yX4_commonDivisor : MethodName := ⟨RX4, "commonDivisor", "(JJ)J"⟩
abbrev cX4_drawOne : ByteArray := prog_1_method_42_code
def yX4_drawOne : MethodName := ⟨RX4, "drawOne", "(J)V"⟩
abbrev cX4_isImage : ByteArray := prog_1_method_43_code
def yX4_isImage : MethodName := ⟨RX4, "isImage", "(I)Z"⟩
abbrev cX4_imageAt : ByteArray := prog_1_method_44_code
def yX4_imageAt : MethodName := ⟨RX4, "imageAt", "(I)LShaftDiscs$Shaft;"⟩
abbrev cX4_kind : ByteArray := prog_1_method_45_code
def yX4_kind : MethodName := ⟨RX4, "kind", "(I)I"⟩
abbrev cX4_as : ByteArray := prog_1_method_46_code
def yX4_as : MethodName := ⟨RX4, "as", "(II)I"⟩
abbrev cX4_ask : ByteArray := prog_1_method_47_code
def yX4_ask : MethodName := ⟨RX4, "ask", "(II)I"⟩
abbrev cX4_trace : ByteArray := prog_1_method_48_code
def yX4_trace : MethodName := ⟨RX4, "trace", "(I)I"⟩
abbrev cX4_count : ByteArray := prog_1_method_49_code
def yX4_count : MethodName := ⟨RX4, "count", "(I)I"⟩
abbrev cX4_status : ByteArray := prog_1_method_50_code
def yX4_status : MethodName := ⟨RX4, "status", "()I"⟩
abbrev cX4_isOfKind : ByteArray := prog_1_method_51_code
def yX4_isOfKind : MethodName := ⟨RX4, "isOfKind", "(II)Z"⟩
abbrev cX4_asked : ByteArray := prog_1_method_52_code
def yX4_asked : MethodName := ⟨RX4, "asked", "(III)I"⟩
abbrev cX4_answerOf : ByteArray := prog_1_method_53_code
def yX4_answerOf : MethodName := ⟨RX4, "answerOf", "(III)I"⟩
abbrev cX4_leaveTrace : ByteArray := prog_1_method_54_code
def yX4_leaveTrace : MethodName := ⟨RX4, "leaveTrace", "(I)V"⟩
abbrev cX4_rowsThatStand : ByteArray := prog_1_method_55_code
def yX4_rowsThatStand : MethodName := ⟨RX4, "rowsThatStand", "()I"⟩
abbrev cX4_found : ByteArray := prog_1_method_56_code
def yX4_found : MethodName := ⟨RX4, "found", "(I)I"⟩
abbrev cX4_clean : ByteArray := prog_1_method_57_code
def yX4_clean : MethodName := ⟨RX4, "clean", "(I)I"⟩
abbrev cX4_answered : ByteArray := prog_1_method_58_code
def yX4_answered : MethodName := ⟨RX4, "answered", "(I)I"⟩
def RX5 : String := "ShaftDiscsModel"
def TX5 : u_T := fun k => match k with
  | 0 => ("ShaftDiscsModel", "thrown", "I", false)
  | 1 => ("ShaftDiscsModel", "status", "I", false)
  | 2 => ("ShaftDiscsModel", "lane", "[I", true)
  | 3 => ("ShaftDiscsModel", "many", "[I", true)
  | 4 => ("ShaftDiscsModel", "item", "[I", true)
  | 5 => ("ShaftDiscsModel", "shaft", "[I", true)
  | 6 => ("ShaftDiscsModel", "fresh", "[I", true)
  | 7 => ("ShaftDiscsModel", "then", "[I", true)
  | 8 => ("ShaftDiscsModel", "was", "[I", true)
  | 9 => ("ShaftDiscsModel", "acts", "I", false)
  | 10 => ("ShaftDiscsModel", "tape", "[I", true)
  | 11 => ("ShaftDiscsModel", "taped", "I", false)
  | 12 => ("ShaftDiscsModel", "cursor", "I", false)
  | 13 => ("ShaftDiscsModel", "start", "I", false)
  | 14 => ("ShaftDiscsModel", "token", "I", false)
  | 15 => ("ShaftDiscsModel", "value", "I", false)
  | 16 => ("ShaftDiscsModel", "fault", "I", false)
  | 17 => ("ShaftDiscsModel", "faultAt", "I", false)
  | 18 => ("ShaftDiscsModel", "latest", "I", false)
  | 19 => ("ShaftDiscsModel", "over", "Z", false)
  | 20 => ("ShaftDiscsModel", "determinants", "[J", true)
  | 21 => ("ShaftDiscsModel", "boxes", "[I", true)
  | 22 => ("ShaftDiscsModel", "isKept", "[Z", true)
  | 23 => ("ShaftDiscsModel", "kept", "[I", true)
  | 24 => ("ShaftDiscsModel", "trace", "[I", true)
  | _ => ("ShaftDiscsModel", "traced", "I", false)
def tyX5 : Nat → FieldType := fun k => match k with
  | 0 => .int
  | 1 => .int
  | 2 => .array .int
  | 3 => .array .int
  | 4 => .array .int
  | 5 => .array .int
  | 6 => .array .int
  | 7 => .array .int
  | 8 => .array .int
  | 9 => .int
  | 10 => .array .int
  | 11 => .int
  | 12 => .int
  | 13 => .int
  | 14 => .int
  | 15 => .int
  | 16 => .int
  | 17 => .int
  | 18 => .int
  | 19 => .boolean
  | 20 => .array .long
  | 21 => .array .int
  | 22 => .array .boolean
  | 23 => .array .int
  | 24 => .array .int
  | _ => .int
theorem nmX5 : ∀ a, a < 26 → ∀ b, b < 26 → a ≠ b → (TX5 a).2.1 ≠ (TX5 b).2.1 := by decide +kernel
theorem tyX5_ok : ∀ k, k < 26 → parseFieldDescriptor (TX5 k).2.2.1 = some (tyX5 k) := by decide +kernel
abbrev cX5_init : ByteArray := prog_7_method_1_code
def yX5_init : MethodName := ⟨RX5, "<init>", "()V"⟩
abbrev cX5_in : ByteArray := prog_7_method_3_code
def yX5_in : MethodName := ⟨RX5, "in", "(JJJ)Z"⟩
abbrev cX5_finding : ByteArray := prog_7_method_4_code
def yX5_finding : MethodName := ⟨RX5, "finding", "(I)I"⟩
abbrev cX5_isRow : ByteArray := prog_7_method_5_code
def yX5_isRow : MethodName := ⟨RX5, "isRow", "(I)Z"⟩
abbrev cX5_row : ByteArray := prog_7_method_6_code
def yX5_row : MethodName := ⟨RX5, "row", "(III)I"⟩
abbrev cX5_set : ByteArray := prog_7_method_7_code
def yX5_set : MethodName := ⟨RX5, "set", "(III)I"⟩
abbrev cX5_copy : ByteArray := prog_7_method_8_code
def yX5_copy : MethodName := ⟨RX5, "copy", "(IIIII)I"⟩
abbrev cX5_drop : ByteArray := prog_7_method_9_code
def yX5_drop : MethodName := ⟨RX5, "drop", "(I)I"⟩
abbrev cX5_feed : ByteArray := prog_7_method_10_code
def yX5_feed : MethodName := ⟨RX5, "feed", "(I)I"⟩
abbrev cX5_bad : ByteArray := prog_7_method_11_code
def yX5_bad : MethodName := ⟨RX5, "bad", "(I)V"⟩
abbrev cX5_nextToken : ByteArray := prog_7_method_12_code
def yX5_nextToken : MethodName := ⟨RX5, "nextToken", "()V"⟩
abbrev cX5_must : ByteArray := prog_7_method_13_code
def yX5_must : MethodName := ⟨RX5, "must", "(Z)V"⟩
abbrev cX5_isLetter : ByteArray := prog_7_method_14_code
def yX5_isLetter : MethodName := ⟨RX5, "isLetter", "(I)Z"⟩
abbrev cX5_number : ByteArray := prog_7_method_15_code
def yX5_number : MethodName := ⟨RX5, "number", "(II)I"⟩
abbrev cX5_mustSign : ByteArray := prog_7_method_16_code
def yX5_mustSign : MethodName := ⟨RX5, "mustSign", "(I)V"⟩
abbrev cX5_begin : ByteArray := prog_7_method_17_code
def yX5_begin : MethodName := ⟨RX5, "begin", "()V"⟩
abbrev cX5_failed : ByteArray := prog_7_method_18_code
def yX5_failed : MethodName := ⟨RX5, "failed", "()Z"⟩
abbrev cX5_fault : ByteArray := prog_7_method_19_code
def yX5_fault : MethodName := ⟨RX5, "fault", "()I"⟩
abbrev cX5_kindBy : ByteArray := prog_7_method_20_code
def yX5_kindBy : MethodName := ⟨RX5, "kindBy", "(I)I"⟩
abbrev cX5_isSort : ByteArray := prog_7_method_21_code
def yX5_isSort : MethodName := ⟨RX5, "isSort", "()Z"⟩
abbrev cX5_readDisc : ByteArray := prog_7_method_22_code
def yX5_readDisc : MethodName := ⟨RX5, "readDisc", "()V"⟩
abbrev cX5_shaft : ByteArray := prog_7_method_23_code
def yX5_shaft : MethodName := ⟨RX5, "shaft", "()I"⟩
abbrev cX5_isThere : ByteArray := prog_7_method_24_code
def yX5_isThere : MethodName := ⟨RX5, "isThere", "()Z"⟩
abbrev cX5_isDisc : ByteArray := prog_7_method_25_code
def yX5_isDisc : MethodName := ⟨RX5, "isDisc", "(I)Z"⟩
abbrev cX5_has : ByteArray := prog_7_method_26_code
def yX5_has : MethodName := ⟨RX5, "has", "(II)Z"⟩
abbrev cX5_of : ByteArray := prog_7_method_27_code
def yX5_of : MethodName := ⟨RX5, "of", "([III)I"⟩
abbrev cX5_ratio : ByteArray := prog_7_method_28_code
def yX5_ratio : MethodName := ⟨RX5, "ratio", "([II)I"⟩
abbrev cX5_weight : ByteArray := prog_7_method_29_code
def yX5_weight : MethodName := ⟨RX5, "weight", "([II)I"⟩
abbrev cX5_spring : ByteArray := prog_7_method_30_code
def yX5_spring : MethodName := ⟨RX5, "spring", "([II)I"⟩
abbrev cX5_tie : ByteArray := prog_7_method_31_code
def yX5_tie : MethodName := ⟨RX5, "tie", "([II)I"⟩
abbrev cX5_product : ByteArray := prog_7_method_32_code
def yX5_product : MethodName := ⟨RX5, "product", "(JJ)J"⟩
abbrev cX5_difference : ByteArray := prog_7_method_33_code
def yX5_difference : MethodName := ⟨RX5, "difference", "(JJ)J"⟩
abbrev cX5_reckon : ByteArray := prog_7_method_34_code
def yX5_reckon : MethodName := ⟨RX5, "reckon", "([III)V"⟩
abbrev cX5_belowOf : ByteArray := prog_7_method_35_code
def yX5_belowOf : MethodName := ⟨RX5, "belowOf", "([II)I"⟩
abbrev cX5_boxOf : ByteArray := prog_7_method_36_code
def yX5_boxOf : MethodName := ⟨RX5, "boxOf", "([II)I"⟩
abbrev cX5_layBoxes : ByteArray := prog_7_method_37_code
def yX5_layBoxes : MethodName := ⟨RX5, "layBoxes", "([II)V"⟩
abbrev cX5_layThen : ByteArray := prog_7_method_38_code
def yX5_layThen : MethodName := ⟨RX5, "layThen", "()V"⟩
abbrev cX5_keep : ByteArray := prog_7_method_39_code
def yX5_keep : MethodName := ⟨RX5, "keep", "()V"⟩
abbrev cX5_change : ByteArray := prog_7_method_40_code
def yX5_change : MethodName := ⟨RX5, "change", "(III)I"⟩
abbrev cX5_become : ByteArray := prog_7_method_41_code
def yX5_become : MethodName := ⟨RX5, "become", "(II)I"⟩
abbrev cX5_mark : ByteArray := prog_7_method_42_code
def yX5_mark : MethodName := ⟨RX5, "mark", "(I)I"⟩
abbrev cX5_swap : ByteArray := prog_7_method_43_code
def yX5_swap : MethodName := ⟨RX5, "swap", "(II)I"⟩
abbrev cX5_undo : ByteArray := prog_7_method_44_code
def yX5_undo : MethodName := ⟨RX5, "undo", "()I"⟩
abbrev cX5_disc : ByteArray := prog_7_method_45_code
def yX5_disc : MethodName := ⟨RX5, "disc", "(II)I"⟩
abbrev cX5_unless : ByteArray := prog_7_method_46_code
def yX5_unless : MethodName := ⟨RX5, "unless", "(I)I"⟩
abbrev cX5_determinant : ByteArray := prog_7_method_47_code
def yX5_determinant : MethodName := ⟨RX5, "determinant", "(II)J"⟩
abbrev cX5_below : ByteArray := prog_7_method_48_code
def yX5_below : MethodName := ⟨RX5, "below", "(I)I"⟩
abbrev cX5_box : ByteArray := prog_7_method_49_code
def yX5_box : MethodName := ⟨RX5, "box", "(I)I"⟩
abbrev cX5_widest : ByteArray := prog_7_method_50_code
def yX5_widest : MethodName := ⟨RX5, "widest", "(I)I"⟩
abbrev cX5_isClear : ByteArray := prog_7_method_51_code
def yX5_isClear : MethodName := ⟨RX5, "isClear", "(II)Z"⟩
abbrev cX5_clear : ByteArray := prog_7_method_52_code
def yX5_clear : MethodName := ⟨RX5, "clear", "(II)I"⟩
abbrev cX5_stiffer : ByteArray := prog_7_method_53_code
def yX5_stiffer : MethodName := ⟨RX5, "stiffer", "(II)I"⟩
abbrev cX5_sets : ByteArray := prog_7_method_54_code
def yX5_sets : MethodName := ⟨RX5, "sets", "(II)I"⟩
abbrev cX5_together : ByteArray := prog_7_method_55_code
def yX5_together : MethodName := ⟨RX5, "together", "(I)I"⟩
abbrev cX5_share : ByteArray := prog_7_method_56_code
def yX5_share : MethodName := ⟨RX5, "share", "(II)I"⟩
abbrev cX5_afterTurns : ByteArray := prog_7_method_57_code
def yX5_afterTurns : MethodName := ⟨RX5, "afterTurns", "(III)I"⟩
abbrev cX5_byTurns : ByteArray := prog_7_method_58_code
def yX5_byTurns : MethodName := ⟨RX5, "byTurns", "(I)I"⟩
abbrev cX5_rowFound : ByteArray := prog_7_method_59_code
def yX5_rowFound : MethodName := ⟨RX5, "rowFound", "(III)I"⟩
abbrev cX5_isBoxedSo : ByteArray := prog_7_method_60_code
def yX5_isBoxedSo : MethodName := ⟨RX5, "isBoxedSo", "(II)Z"⟩
abbrev cX5_who : ByteArray := prog_7_method_61_code
def yX5_who : MethodName := ⟨RX5, "who", "(IIIII)I"⟩
abbrev cX5_broken : ByteArray := prog_7_method_62_code
def yX5_broken : MethodName := ⟨RX5, "broken", "(III)J"⟩
abbrev cX5_drawn : ByteArray := prog_7_method_63_code
def yX5_drawn : MethodName := ⟨RX5, "drawn", "(III)I"⟩
abbrev cX5_image : ByteArray := prog_7_method_64_code
def yX5_image : MethodName := ⟨RX5, "image", "(I)I"⟩
abbrev cX5_restore : ByteArray := prog_7_method_65_code
def yX5_restore : MethodName := ⟨RX5, "restore", "(I)I"⟩
abbrev cX5_isOf : ByteArray := prog_7_method_66_code
def yX5_isOf : MethodName := ⟨RX5, "isOf", "(II)Z"⟩
abbrev cX5_kind : ByteArray := prog_7_method_67_code
def yX5_kind : MethodName := ⟨RX5, "kind", "(I)I"⟩
abbrev cX5_as : ByteArray := prog_7_method_68_code
def yX5_as : MethodName := ⟨RX5, "as", "(II)I"⟩
abbrev cX5_began : ByteArray := prog_7_method_69_code
def yX5_began : MethodName := ⟨RX5, "began", "(I)V"⟩
abbrev cX5_plainSize : ByteArray := prog_7_method_70_code
def yX5_plainSize : MethodName := ⟨RX5, "plainSize", "(I)I"⟩
abbrev cX5_tiedSize : ByteArray := prog_7_method_71_code
def yX5_tiedSize : MethodName := ⟨RX5, "tiedSize", "(I)I"⟩
abbrev cX5_markOf : ByteArray := prog_7_method_72_code
def yX5_markOf : MethodName := ⟨RX5, "markOf", "(I)I"⟩
abbrev cX5_sizeOf : ByteArray := prog_7_method_73_code
def yX5_sizeOf : MethodName := ⟨RX5, "sizeOf", "(I)I"⟩
abbrev cX5_ask : ByteArray := prog_7_method_74_code
def yX5_ask : MethodName := ⟨RX5, "ask", "(II)I"⟩
abbrev cX5_trace : ByteArray := prog_7_method_75_code
def yX5_trace : MethodName := ⟨RX5, "trace", "(I)I"⟩
abbrev cX5_count : ByteArray := prog_7_method_76_code
def yX5_count : MethodName := ⟨RX5, "count", "(I)I"⟩
abbrev cX5_status : ByteArray := prog_7_method_77_code
def yX5_status : MethodName := ⟨RX5, "status", "()I"⟩
abbrev vwCl : List vw_C := [(RX0, TX0, 4), (RX1, TX1, 6), (RX2, TX2, 3), (RX3, TX3, 7), (RX4, TX4, 14), (RX5, TX5, 26)]
def RL : String := "ShaftDiscsLaw"
theorem jm_in {w : Cond} (h : w ∈ tables_1) : w ∈ lw_tbl := List.mem_append_right _ h
set_option maxRecDepth 20000 in
theorem inX0 : ∀ w ∈ u_ws RX0 TX0 4, w ∈ lw_tbl := by
  have h : ∀ k, k < 4 → u_lay RX0 TX0 k ∈ tables_1 := fun k hk => match k, hk with
    | 0, _ => List.mem_of_getElem? (i := 85) (by decide +kernel)
    | 1, _ => List.mem_of_getElem? (i := 87) (by decide +kernel)
    | 2, _ => List.mem_of_getElem? (i := 89) (by decide +kernel)
    | 3, _ => List.mem_of_getElem? (i := 91) (by decide +kernel)
    | k + 4, h => absurd h (by omega)
  intro w hw
  obtain ⟨k, hk, rfl⟩ := List.mem_map.mp hw
  exact jm_in (h k (List.mem_range.mp hk))
set_option maxRecDepth 20000 in
theorem inX1 : ∀ w ∈ u_ws RX1 TX1 6, w ∈ lw_tbl := by
  have h : ∀ k, k < 6 → u_lay RX1 TX1 k ∈ tables_1 := fun k hk => match k, hk with
    | 0, _ => List.mem_of_getElem? (i := 34) (by decide +kernel)
    | 1, _ => List.mem_of_getElem? (i := 36) (by decide +kernel)
    | 2, _ => List.mem_of_getElem? (i := 38) (by decide +kernel)
    | 3, _ => List.mem_of_getElem? (i := 40) (by decide +kernel)
    | 4, _ => List.mem_of_getElem? (i := 42) (by decide +kernel)
    | 5, _ => List.mem_of_getElem? (i := 44) (by decide +kernel)
    | k + 6, h => absurd h (by omega)
  intro w hw
  obtain ⟨k, hk, rfl⟩ := List.mem_map.mp hw
  exact jm_in (h k (List.mem_range.mp hk))
set_option maxRecDepth 20000 in
theorem inX2 : ∀ w ∈ u_ws RX2 TX2 3, w ∈ lw_tbl := by
  have h : ∀ k, k < 3 → u_lay RX2 TX2 k ∈ tables_1 := fun k hk => match k, hk with
    | 0, _ => List.mem_of_getElem? (i := 67) (by decide +kernel)
    | 1, _ => List.mem_of_getElem? (i := 69) (by decide +kernel)
    | 2, _ => List.mem_of_getElem? (i := 71) (by decide +kernel)
    | k + 3, h => absurd h (by omega)
  intro w hw
  obtain ⟨k, hk, rfl⟩ := List.mem_map.mp hw
  exact jm_in (h k (List.mem_range.mp hk))
set_option maxRecDepth 20000 in
theorem inX3 : ∀ w ∈ u_ws RX3 TX3 7, w ∈ lw_tbl := by
  have h : ∀ k, k < 7 → u_lay RX3 TX3 k ∈ tables_1 := fun k hk => match k, hk with
    | 0, _ => List.mem_of_getElem? (i := 108) (by decide +kernel)
    | 1, _ => List.mem_of_getElem? (i := 110) (by decide +kernel)
    | 2, _ => List.mem_of_getElem? (i := 112) (by decide +kernel)
    | 3, _ => List.mem_of_getElem? (i := 114) (by decide +kernel)
    | 4, _ => List.mem_of_getElem? (i := 116) (by decide +kernel)
    | 5, _ => List.mem_of_getElem? (i := 118) (by decide +kernel)
    | 6, _ => List.mem_of_getElem? (i := 120) (by decide +kernel)
    | k + 7, h => absurd h (by omega)
  intro w hw
  obtain ⟨k, hk, rfl⟩ := List.mem_map.mp hw
  exact jm_in (h k (List.mem_range.mp hk))
set_option maxRecDepth 20000 in
theorem inX4 : ∀ w ∈ u_ws RX4 TX4 14, w ∈ lw_tbl := by
  have h : ∀ k, k < 14 → u_lay RX4 TX4 k ∈ tables_1 := fun k hk => match k, hk with
    | 0, _ => List.mem_of_getElem? (i := 138) (by decide +kernel)
    | 1, _ => List.mem_of_getElem? (i := 140) (by decide +kernel)
    | 2, _ => List.mem_of_getElem? (i := 142) (by decide +kernel)
    | 3, _ => List.mem_of_getElem? (i := 144) (by decide +kernel)
    | 4, _ => List.mem_of_getElem? (i := 146) (by decide +kernel)
    | 5, _ => List.mem_of_getElem? (i := 148) (by decide +kernel)
    | 6, _ => List.mem_of_getElem? (i := 150) (by decide +kernel)
    | 7, _ => List.mem_of_getElem? (i := 152) (by decide +kernel)
    | 8, _ => List.mem_of_getElem? (i := 154) (by decide +kernel)
    | 9, _ => List.mem_of_getElem? (i := 156) (by decide +kernel)
    | 10, _ => List.mem_of_getElem? (i := 158) (by decide +kernel)
    | 11, _ => List.mem_of_getElem? (i := 160) (by decide +kernel)
    | 12, _ => List.mem_of_getElem? (i := 162) (by decide +kernel)
    | 13, _ => List.mem_of_getElem? (i := 164) (by decide +kernel)
    | k + 14, h => absurd h (by omega)
  intro w hw
  obtain ⟨k, hk, rfl⟩ := List.mem_map.mp hw
  exact jm_in (h k (List.mem_range.mp hk))
set_option maxRecDepth 20000 in
theorem inX5 : ∀ w ∈ u_ws RX5 TX5 26, w ∈ lw_tbl := by
  have h : ∀ k, k < 26 → u_lay RX5 TX5 k ∈ tables_1 := fun k hk => match k, hk with
    | 0, _ => List.mem_of_getElem? (i := 615) (by decide +kernel)
    | 1, _ => List.mem_of_getElem? (i := 617) (by decide +kernel)
    | 2, _ => List.mem_of_getElem? (i := 619) (by decide +kernel)
    | 3, _ => List.mem_of_getElem? (i := 621) (by decide +kernel)
    | 4, _ => List.mem_of_getElem? (i := 623) (by decide +kernel)
    | 5, _ => List.mem_of_getElem? (i := 625) (by decide +kernel)
    | 6, _ => List.mem_of_getElem? (i := 627) (by decide +kernel)
    | 7, _ => List.mem_of_getElem? (i := 629) (by decide +kernel)
    | 8, _ => List.mem_of_getElem? (i := 631) (by decide +kernel)
    | 9, _ => List.mem_of_getElem? (i := 633) (by decide +kernel)
    | 10, _ => List.mem_of_getElem? (i := 635) (by decide +kernel)
    | 11, _ => List.mem_of_getElem? (i := 637) (by decide +kernel)
    | 12, _ => List.mem_of_getElem? (i := 639) (by decide +kernel)
    | 13, _ => List.mem_of_getElem? (i := 641) (by decide +kernel)
    | 14, _ => List.mem_of_getElem? (i := 643) (by decide +kernel)
    | 15, _ => List.mem_of_getElem? (i := 645) (by decide +kernel)
    | 16, _ => List.mem_of_getElem? (i := 647) (by decide +kernel)
    | 17, _ => List.mem_of_getElem? (i := 649) (by decide +kernel)
    | 18, _ => List.mem_of_getElem? (i := 651) (by decide +kernel)
    | 19, _ => List.mem_of_getElem? (i := 653) (by decide +kernel)
    | 20, _ => List.mem_of_getElem? (i := 655) (by decide +kernel)
    | 21, _ => List.mem_of_getElem? (i := 657) (by decide +kernel)
    | 22, _ => List.mem_of_getElem? (i := 659) (by decide +kernel)
    | 23, _ => List.mem_of_getElem? (i := 661) (by decide +kernel)
    | 24, _ => List.mem_of_getElem? (i := 663) (by decide +kernel)
    | 25, _ => List.mem_of_getElem? (i := 665) (by decide +kernel)
    | k + 26, h => absurd h (by omega)
  intro w hw
  obtain ⟨k, hk, rfl⟩ := List.mem_map.mp hw
  exact jm_in (h k (List.mem_range.mp hk))
